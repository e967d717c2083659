theorem dX0_init_0 : decode cX0_init 0 = .ok (.aload_n 0, 1) := by decide +kernel
theorem dX0_init_1 : decode cX0_init 1 = .ok (.invokespecial 3, 3) := by decide +kernel
theorem dX0_init_4 : decode cX0_init 4 = .ok (.aload_n 0, 1) := by decide +kernel
theorem dX0_init_5 : decode cX0_init 5 = .ok (.sipush 3721, 3) := by decide +kernel
theorem dX0_init_8 : decode cX0_init 8 = .ok (.newarray .int, 2) := by decide +kernel
theorem dX0_init_10 : decode cX0_init 10 = .ok (.putfield 11, 3) := by decide +kernel
theorem dX0_init_13 : decode cX0_init 13 = .ok (.aload_n 0, 1) := by decide +kernel
theorem dX0_init_14 : decode cX0_init 14 = .ok (.bipush 60, 2) := by decide +kernel
theorem dX0_init_16 : decode cX0_init 16 = .ok (.newarray .int, 2) := by decide +kernel
theorem dX0_init_18 : decode cX0_init 18 = .ok (.putfield 15, 3) := by decide +kernel
theorem dX0_init_21 : decode cX0_init 21 = .ok (.return_, 1) := by decide +kernel
theorem dX0_add_0 : decode cX0_add 0 = .ok (.iconst 0, 1) := by decide +kernel
theorem dX0_add_1 : decode cX0_add 1 = .ok (.istore 4, 2) := by decide +kernel
theorem dX0_add_3 : decode cX0_add 3 = .ok (.iconst 0, 1) := by decide +kernel
theorem dX0_add_4 : decode cX0_add 4 = .ok (.istore 5, 2) := by decide +kernel
theorem dX0_add_6 : decode cX0_add 6 = .ok (.iload 5, 2) := by decide +kernel
theorem dX0_add_8 : decode cX0_add 8 = .ok (.aload_n 3, 1) := by decide +kernel
theorem dX0_add_9 : decode cX0_add 9 = .ok (.getfield 18, 3) := by decide +kernel
theorem dX0_add_12 : decode cX0_add 12 = .ok (.if_icmp .ge 17, 3) := by decide +kernel
theorem dX0_add_15 : decode cX0_add 15 = .ok (.aload_n 0, 1) := by decide +kernel
theorem dX0_add_16 : decode cX0_add 16 = .ok (.getfield 15, 3) := by decide +kernel
theorem dX0_add_19 : decode cX0_add 19 = .ok (.iload 5, 2) := by decide +kernel
theorem dX0_add_21 : decode cX0_add 21 = .ok (.iload_n 2, 1) := by decide +kernel
theorem dX0_add_22 : decode cX0_add 22 = .ok (.iastore, 1) := by decide +kernel
theorem dX0_add_23 : decode cX0_add 23 = .ok (.iinc 5 1, 3) := by decide +kernel
theorem dX0_add_26 : decode cX0_add 26 = .ok (.goto (-20), 3) := by decide +kernel
theorem dX0_add_29 : decode cX0_add 29 = .ok (.aload_n 1, 1) := by decide +kernel
theorem dX0_add_30 : decode cX0_add 30 = .ok (.getfield 24, 3) := by decide +kernel
theorem dX0_add_33 : decode cX0_add 33 = .ok (.ifCond .le 23, 3) := by decide +kernel
theorem dX0_add_36 : decode cX0_add 36 = .ok (.aload_n 0, 1) := by decide +kernel
theorem dX0_add_37 : decode cX0_add 37 = .ok (.aload_n 1, 1) := by decide +kernel
theorem dX0_add_38 : decode cX0_add 38 = .ok (.aload_n 3, 1) := by decide +kernel
theorem dX0_add_39 : decode cX0_add 39 = .ok (.invokevirtual 29, 3) := by decide +kernel
theorem dX0_add_42 : decode cX0_add 42 = .ok (.aload_n 0, 1) := by decide +kernel
theorem dX0_add_43 : decode cX0_add 43 = .ok (.aload_n 1, 1) := by decide +kernel
theorem dX0_add_44 : decode cX0_add 44 = .ok (.aload_n 3, 1) := by decide +kernel
theorem dX0_add_45 : decode cX0_add 45 = .ok (.invokevirtual 33, 3) := by decide +kernel
theorem dX0_add_48 : decode cX0_add 48 = .ok (.aload_n 0, 1) := by decide +kernel
theorem dX0_add_49 : decode cX0_add 49 = .ok (.getfield 11, 3) := by decide +kernel
theorem dX0_add_52 : decode cX0_add 52 = .ok (.iconst 0, 1) := by decide +kernel
theorem dX0_add_53 : decode cX0_add 53 = .ok (.iaload, 1) := by decide +kernel
theorem dX0_add_54 : decode cX0_add 54 = .ok (.istore 4, 2) := by decide +kernel
theorem dX0_add_56 : decode cX0_add 56 = .ok (.aload_n 0, 1) := by decide +kernel
theorem dX0_add_57 : decode cX0_add 57 = .ok (.getfield 15, 3) := by decide +kernel
theorem dX0_add_60 : decode cX0_add 60 = .ok (.iconst 0, 1) := by decide +kernel
theorem dX0_add_61 : decode cX0_add 61 = .ok (.aload_n 1, 1) := by decide +kernel
theorem dX0_add_62 : decode cX0_add 62 = .ok (.getfield 36, 3) := by decide +kernel
theorem dX0_add_65 : decode cX0_add 65 = .ok (.iconst 0, 1) := by decide +kernel
theorem dX0_add_66 : decode cX0_add 66 = .ok (.aload_n 3, 1) := by decide +kernel
theorem dX0_add_67 : decode cX0_add 67 = .ok (.getfield 18, 3) := by decide +kernel
theorem dX0_add_70 : decode cX0_add 70 = .ok (.invokestatic 39, 3) := by decide +kernel
theorem dX0_add_73 : decode cX0_add 73 = .ok (.aload_n 3, 1) := by decide +kernel
theorem dX0_add_74 : decode cX0_add 74 = .ok (.getfield 45, 3) := by decide +kernel
theorem dX0_add_77 : decode cX0_add 77 = .ok (.iconst 0, 1) := by decide +kernel
theorem dX0_add_78 : decode cX0_add 78 = .ok (.aload_n 1, 1) := by decide +kernel
theorem dX0_add_79 : decode cX0_add 79 = .ok (.getfield 49, 3) := by decide +kernel
theorem dX0_add_82 : decode cX0_add 82 = .ok (.iconst 0, 1) := by decide +kernel
theorem dX0_add_83 : decode cX0_add 83 = .ok (.aload_n 3, 1) := by decide +kernel
theorem dX0_add_84 : decode cX0_add 84 = .ok (.getfield 18, 3) := by decide +kernel
theorem dX0_add_87 : decode cX0_add 87 = .ok (.invokestatic 39, 3) := by decide +kernel
theorem dX0_add_90 : decode cX0_add 90 = .ok (.aload_n 1, 1) := by decide +kernel
theorem dX0_add_91 : decode cX0_add 91 = .ok (.aload_n 3, 1) := by decide +kernel
theorem dX0_add_92 : decode cX0_add 92 = .ok (.getfield 18, 3) := by decide +kernel
theorem dX0_add_95 : decode cX0_add 95 = .ok (.putfield 52, 3) := by decide +kernel
theorem dX0_add_98 : decode cX0_add 98 = .ok (.aload_n 1, 1) := by decide +kernel
theorem dX0_add_99 : decode cX0_add 99 = .ok (.dup, 1) := by decide +kernel
theorem dX0_add_100 : decode cX0_add 100 = .ok (.getfield 24, 3) := by decide +kernel
theorem dX0_add_103 : decode cX0_add 103 = .ok (.iconst 1, 1) := by decide +kernel
theorem dX0_add_104 : decode cX0_add 104 = .ok (.iadd, 1) := by decide +kernel
theorem dX0_add_105 : decode cX0_add 105 = .ok (.putfield 24, 3) := by decide +kernel
theorem dX0_add_108 : decode cX0_add 108 = .ok (.iload 4, 2) := by decide +kernel
theorem dX0_add_110 : decode cX0_add 110 = .ok (.ireturn, 1) := by decide +kernel
theorem dX0_fillCanKeep_0 : decode cX0_fillCanKeep 0 = .ok (.aload_n 1, 1) := by decide +kernel
theorem dX0_fillCanKeep_1 : decode cX0_fillCanKeep 1 = .ok (.getfield 52, 3) := by decide +kernel
theorem dX0_fillCanKeep_4 : decode cX0_fillCanKeep 4 = .ok (.istore_n 3, 1) := by decide +kernel
theorem dX0_fillCanKeep_5 : decode cX0_fillCanKeep 5 = .ok (.iload_n 3, 1) := by decide +kernel
theorem dX0_fillCanKeep_6 : decode cX0_fillCanKeep 6 = .ok (.ifCond .lt 131, 3) := by decide +kernel
theorem dX0_fillCanKeep_9 : decode cX0_fillCanKeep 9 = .ok (.aload_n 2, 1) := by decide +kernel
theorem dX0_fillCanKeep_10 : decode cX0_fillCanKeep 10 = .ok (.getfield 18, 3) := by decide +kernel
theorem dX0_fillCanKeep_13 : decode cX0_fillCanKeep 13 = .ok (.istore 4, 2) := by decide +kernel
theorem dX0_fillCanKeep_15 : decode cX0_fillCanKeep 15 = .ok (.iload 4, 2) := by decide +kernel
theorem dX0_fillCanKeep_17 : decode cX0_fillCanKeep 17 = .ok (.ifCond .lt 114, 3) := by decide +kernel
theorem dX0_fillCanKeep_20 : decode cX0_fillCanKeep 20 = .ok (.iconst 0, 1) := by decide +kernel
theorem dX0_fillCanKeep_21 : decode cX0_fillCanKeep 21 = .ok (.istore 5, 2) := by decide +kernel
theorem dX0_fillCanKeep_23 : decode cX0_fillCanKeep 23 = .ok (.iload_n 3, 1) := by decide +kernel
theorem dX0_fillCanKeep_24 : decode cX0_fillCanKeep 24 = .ok (.aload_n 1, 1) := by decide +kernel
theorem dX0_fillCanKeep_25 : decode cX0_fillCanKeep 25 = .ok (.getfield 52, 3) := by decide +kernel
theorem dX0_fillCanKeep_28 : decode cX0_fillCanKeep 28 = .ok (.if_icmp .ge 83, 3) := by decide +kernel
theorem dX0_fillCanKeep_31 : decode cX0_fillCanKeep 31 = .ok (.iload 4, 2) := by decide +kernel
theorem dX0_fillCanKeep_33 : decode cX0_fillCanKeep 33 = .ok (.aload_n 2, 1) := by decide +kernel
theorem dX0_fillCanKeep_34 : decode cX0_fillCanKeep 34 = .ok (.getfield 18, 3) := by decide +kernel
theorem dX0_fillCanKeep_37 : decode cX0_fillCanKeep 37 = .ok (.if_icmp .ge 74, 3) := by decide +kernel
theorem dX0_fillCanKeep_40 : decode cX0_fillCanKeep 40 = .ok (.aload_n 1, 1) := by decide +kernel
theorem dX0_fillCanKeep_41 : decode cX0_fillCanKeep 41 = .ok (.getfield 49, 3) := by decide +kernel
theorem dX0_fillCanKeep_44 : decode cX0_fillCanKeep 44 = .ok (.iload_n 3, 1) := by decide +kernel
theorem dX0_fillCanKeep_45 : decode cX0_fillCanKeep 45 = .ok (.laload, 1) := by decide +kernel
theorem dX0_fillCanKeep_46 : decode cX0_fillCanKeep 46 = .ok (.aload_n 2, 1) := by decide +kernel
theorem dX0_fillCanKeep_47 : decode cX0_fillCanKeep 47 = .ok (.getfield 45, 3) := by decide +kernel
theorem dX0_fillCanKeep_50 : decode cX0_fillCanKeep 50 = .ok (.iload 4, 2) := by decide +kernel
theorem dX0_fillCanKeep_52 : decode cX0_fillCanKeep 52 = .ok (.laload, 1) := by decide +kernel
theorem dX0_fillCanKeep_53 : decode cX0_fillCanKeep 53 = .ok (.lcmp, 1) := by decide +kernel
theorem dX0_fillCanKeep_54 : decode cX0_fillCanKeep 54 = .ok (.ifCond .ne 24, 3) := by decide +kernel
theorem dX0_fillCanKeep_57 : decode cX0_fillCanKeep 57 = .ok (.iconst 1, 1) := by decide +kernel
theorem dX0_fillCanKeep_58 : decode cX0_fillCanKeep 58 = .ok (.aload_n 0, 1) := by decide +kernel
theorem dX0_fillCanKeep_59 : decode cX0_fillCanKeep 59 = .ok (.getfield 11, 3) := by decide +kernel
theorem dX0_fillCanKeep_62 : decode cX0_fillCanKeep 62 = .ok (.iload_n 3, 1) := by decide +kernel
theorem dX0_fillCanKeep_63 : decode cX0_fillCanKeep 63 = .ok (.iconst 1, 1) := by decide +kernel
theorem dX0_fillCanKeep_64 : decode cX0_fillCanKeep 64 = .ok (.iadd, 1) := by decide +kernel
theorem dX0_fillCanKeep_65 : decode cX0_fillCanKeep 65 = .ok (.bipush 61, 2) := by decide +kernel
theorem dX0_fillCanKeep_67 : decode cX0_fillCanKeep 67 = .ok (.imul, 1) := by decide +kernel
theorem dX0_fillCanKeep_68 : decode cX0_fillCanKeep 68 = .ok (.iload 4, 2) := by decide +kernel
theorem dX0_fillCanKeep_70 : decode cX0_fillCanKeep 70 = .ok (.iadd, 1) := by decide +kernel
theorem dX0_fillCanKeep_71 : decode cX0_fillCanKeep 71 = .ok (.iconst 1, 1) := by decide +kernel
theorem dX0_fillCanKeep_72 : decode cX0_fillCanKeep 72 = .ok (.iadd, 1) := by decide +kernel
theorem dX0_fillCanKeep_73 : decode cX0_fillCanKeep 73 = .ok (.iaload, 1) := by decide +kernel
theorem dX0_fillCanKeep_74 : decode cX0_fillCanKeep 74 = .ok (.iadd, 1) := by decide +kernel
theorem dX0_fillCanKeep_75 : decode cX0_fillCanKeep 75 = .ok (.goto 34, 3) := by decide +kernel
theorem dX0_fillCanKeep_78 : decode cX0_fillCanKeep 78 = .ok (.aload_n 0, 1) := by decide +kernel
theorem dX0_fillCanKeep_79 : decode cX0_fillCanKeep 79 = .ok (.getfield 11, 3) := by decide +kernel
theorem dX0_fillCanKeep_82 : decode cX0_fillCanKeep 82 = .ok (.iload_n 3, 1) := by decide +kernel
theorem dX0_fillCanKeep_83 : decode cX0_fillCanKeep 83 = .ok (.iconst 1, 1) := by decide +kernel
theorem dX0_fillCanKeep_84 : decode cX0_fillCanKeep 84 = .ok (.iadd, 1) := by decide +kernel
theorem dX0_fillCanKeep_85 : decode cX0_fillCanKeep 85 = .ok (.bipush 61, 2) := by decide +kernel
theorem dX0_fillCanKeep_87 : decode cX0_fillCanKeep 87 = .ok (.imul, 1) := by decide +kernel
theorem dX0_fillCanKeep_88 : decode cX0_fillCanKeep 88 = .ok (.iload 4, 2) := by decide +kernel
theorem dX0_fillCanKeep_90 : decode cX0_fillCanKeep 90 = .ok (.iadd, 1) := by decide +kernel
theorem dX0_fillCanKeep_91 : decode cX0_fillCanKeep 91 = .ok (.iaload, 1) := by decide +kernel
theorem dX0_fillCanKeep_92 : decode cX0_fillCanKeep 92 = .ok (.aload_n 0, 1) := by decide +kernel
theorem dX0_fillCanKeep_93 : decode cX0_fillCanKeep 93 = .ok (.getfield 11, 3) := by decide +kernel
theorem dX0_fillCanKeep_96 : decode cX0_fillCanKeep 96 = .ok (.iload_n 3, 1) := by decide +kernel
theorem dX0_fillCanKeep_97 : decode cX0_fillCanKeep 97 = .ok (.bipush 61, 2) := by decide +kernel
theorem dX0_fillCanKeep_99 : decode cX0_fillCanKeep 99 = .ok (.imul, 1) := by decide +kernel
theorem dX0_fillCanKeep_100 : decode cX0_fillCanKeep 100 = .ok (.iload 4, 2) := by decide +kernel
theorem dX0_fillCanKeep_102 : decode cX0_fillCanKeep 102 = .ok (.iadd, 1) := by decide +kernel
theorem dX0_fillCanKeep_103 : decode cX0_fillCanKeep 103 = .ok (.iconst 1, 1) := by decide +kernel
theorem dX0_fillCanKeep_104 : decode cX0_fillCanKeep 104 = .ok (.iadd, 1) := by decide +kernel
theorem dX0_fillCanKeep_105 : decode cX0_fillCanKeep 105 = .ok (.iaload, 1) := by decide +kernel
theorem dX0_fillCanKeep_106 : decode cX0_fillCanKeep 106 = .ok (.invokestatic 55, 3) := by decide +kernel
theorem dX0_fillCanKeep_109 : decode cX0_fillCanKeep 109 = .ok (.istore 5, 2) := by decide +kernel
theorem dX0_fillCanKeep_111 : decode cX0_fillCanKeep 111 = .ok (.aload_n 0, 1) := by decide +kernel
theorem dX0_fillCanKeep_112 : decode cX0_fillCanKeep 112 = .ok (.getfield 11, 3) := by decide +kernel
theorem dX0_fillCanKeep_115 : decode cX0_fillCanKeep 115 = .ok (.iload_n 3, 1) := by decide +kernel
theorem dX0_fillCanKeep_116 : decode cX0_fillCanKeep 116 = .ok (.bipush 61, 2) := by decide +kernel
theorem dX0_fillCanKeep_118 : decode cX0_fillCanKeep 118 = .ok (.imul, 1) := by decide +kernel
theorem dX0_fillCanKeep_119 : decode cX0_fillCanKeep 119 = .ok (.iload 4, 2) := by decide +kernel
theorem dX0_fillCanKeep_121 : decode cX0_fillCanKeep 121 = .ok (.iadd, 1) := by decide +kernel
theorem dX0_fillCanKeep_122 : decode cX0_fillCanKeep 122 = .ok (.iload 5, 2) := by decide +kernel
theorem dX0_fillCanKeep_124 : decode cX0_fillCanKeep 124 = .ok (.iastore, 1) := by decide +kernel
theorem dX0_fillCanKeep_125 : decode cX0_fillCanKeep 125 = .ok (.iinc 4 (-1), 3) := by decide +kernel
theorem dX0_fillCanKeep_128 : decode cX0_fillCanKeep 128 = .ok (.goto (-113), 3) := by decide +kernel
theorem dX0_fillCanKeep_131 : decode cX0_fillCanKeep 131 = .ok (.iinc 3 (-1), 3) := by decide +kernel
theorem dX0_fillCanKeep_134 : decode cX0_fillCanKeep 134 = .ok (.goto (-129), 3) := by decide +kernel
theorem dX0_fillCanKeep_137 : decode cX0_fillCanKeep 137 = .ok (.return_, 1) := by decide +kernel
theorem dX0_keepHands_0 : decode cX0_keepHands 0 = .ok (.iconst 0, 1) := by decide +kernel
theorem dX0_keepHands_1 : decode cX0_keepHands 1 = .ok (.istore_n 3, 1) := by decide +kernel
theorem dX0_keepHands_2 : decode cX0_keepHands 2 = .ok (.iconst 0, 1) := by decide +kernel
theorem dX0_keepHands_3 : decode cX0_keepHands 3 = .ok (.istore 4, 2) := by decide +kernel
theorem dX0_keepHands_5 : decode cX0_keepHands 5 = .ok (.aload_n 1, 1) := by decide +kernel
theorem dX0_keepHands_6 : decode cX0_keepHands 6 = .ok (.getfield 52, 3) := by decide +kernel
theorem dX0_keepHands_9 : decode cX0_keepHands 9 = .ok (.aload_n 2, 1) := by decide +kernel
theorem dX0_keepHands_10 : decode cX0_keepHands 10 = .ok (.getfield 18, 3) := by decide +kernel
theorem dX0_keepHands_13 : decode cX0_keepHands 13 = .ok (.iadd, 1) := by decide +kernel
theorem dX0_keepHands_14 : decode cX0_keepHands 14 = .ok (.istore 5, 2) := by decide +kernel
theorem dX0_keepHands_16 : decode cX0_keepHands 16 = .ok (.iconst 0, 1) := by decide +kernel
theorem dX0_keepHands_17 : decode cX0_keepHands 17 = .ok (.istore 6, 2) := by decide +kernel
theorem dX0_keepHands_19 : decode cX0_keepHands 19 = .ok (.iload 6, 2) := by decide +kernel
theorem dX0_keepHands_21 : decode cX0_keepHands 21 = .ok (.iload 5, 2) := by decide +kernel
theorem dX0_keepHands_23 : decode cX0_keepHands 23 = .ok (.if_icmp .ge 103, 3) := by decide +kernel
theorem dX0_keepHands_26 : decode cX0_keepHands 26 = .ok (.iload_n 3, 1) := by decide +kernel
theorem dX0_keepHands_27 : decode cX0_keepHands 27 = .ok (.aload_n 1, 1) := by decide +kernel
theorem dX0_keepHands_28 : decode cX0_keepHands 28 = .ok (.getfield 52, 3) := by decide +kernel
theorem dX0_keepHands_31 : decode cX0_keepHands 31 = .ok (.if_icmp .ge 95, 3) := by decide +kernel
theorem dX0_keepHands_34 : decode cX0_keepHands 34 = .ok (.iload 4, 2) := by decide +kernel
theorem dX0_keepHands_36 : decode cX0_keepHands 36 = .ok (.aload_n 2, 1) := by decide +kernel
theorem dX0_keepHands_37 : decode cX0_keepHands 37 = .ok (.getfield 18, 3) := by decide +kernel
theorem dX0_keepHands_40 : decode cX0_keepHands 40 = .ok (.if_icmp .ge 86, 3) := by decide +kernel
theorem dX0_keepHands_43 : decode cX0_keepHands 43 = .ok (.aload_n 1, 1) := by decide +kernel
theorem dX0_keepHands_44 : decode cX0_keepHands 44 = .ok (.getfield 49, 3) := by decide +kernel
theorem dX0_keepHands_47 : decode cX0_keepHands 47 = .ok (.iload_n 3, 1) := by decide +kernel
theorem dX0_keepHands_48 : decode cX0_keepHands 48 = .ok (.laload, 1) := by decide +kernel
theorem dX0_keepHands_49 : decode cX0_keepHands 49 = .ok (.aload_n 2, 1) := by decide +kernel
theorem dX0_keepHands_50 : decode cX0_keepHands 50 = .ok (.getfield 45, 3) := by decide +kernel
theorem dX0_keepHands_53 : decode cX0_keepHands 53 = .ok (.iload 4, 2) := by decide +kernel
theorem dX0_keepHands_55 : decode cX0_keepHands 55 = .ok (.laload, 1) := by decide +kernel
theorem dX0_keepHands_56 : decode cX0_keepHands 56 = .ok (.lcmp, 1) := by decide +kernel
theorem dX0_keepHands_57 : decode cX0_keepHands 57 = .ok (.ifCond .ne 25, 3) := by decide +kernel
theorem dX0_keepHands_60 : decode cX0_keepHands 60 = .ok (.aload_n 0, 1) := by decide +kernel
theorem dX0_keepHands_61 : decode cX0_keepHands 61 = .ok (.getfield 15, 3) := by decide +kernel
theorem dX0_keepHands_64 : decode cX0_keepHands 64 = .ok (.iload 4, 2) := by decide +kernel
theorem dX0_keepHands_66 : decode cX0_keepHands 66 = .ok (.aload_n 1, 1) := by decide +kernel
theorem dX0_keepHands_67 : decode cX0_keepHands 67 = .ok (.getfield 36, 3) := by decide +kernel
theorem dX0_keepHands_70 : decode cX0_keepHands 70 = .ok (.iload_n 3, 1) := by decide +kernel
theorem dX0_keepHands_71 : decode cX0_keepHands 71 = .ok (.iaload, 1) := by decide +kernel
theorem dX0_keepHands_72 : decode cX0_keepHands 72 = .ok (.iastore, 1) := by decide +kernel
theorem dX0_keepHands_73 : decode cX0_keepHands 73 = .ok (.iinc 3 1, 3) := by decide +kernel
theorem dX0_keepHands_76 : decode cX0_keepHands 76 = .ok (.iinc 4 1, 3) := by decide +kernel
theorem dX0_keepHands_79 : decode cX0_keepHands 79 = .ok (.goto 41, 3) := by decide +kernel
theorem dX0_keepHands_82 : decode cX0_keepHands 82 = .ok (.aload_n 0, 1) := by decide +kernel
theorem dX0_keepHands_83 : decode cX0_keepHands 83 = .ok (.getfield 11, 3) := by decide +kernel
theorem dX0_keepHands_86 : decode cX0_keepHands 86 = .ok (.iload_n 3, 1) := by decide +kernel
theorem dX0_keepHands_87 : decode cX0_keepHands 87 = .ok (.iconst 1, 1) := by decide +kernel
theorem dX0_keepHands_88 : decode cX0_keepHands 88 = .ok (.iadd, 1) := by decide +kernel
theorem dX0_keepHands_89 : decode cX0_keepHands 89 = .ok (.bipush 61, 2) := by decide +kernel
theorem dX0_keepHands_91 : decode cX0_keepHands 91 = .ok (.imul, 1) := by decide +kernel
theorem dX0_keepHands_92 : decode cX0_keepHands 92 = .ok (.iload 4, 2) := by decide +kernel
theorem dX0_keepHands_94 : decode cX0_keepHands 94 = .ok (.iadd, 1) := by decide +kernel
theorem dX0_keepHands_95 : decode cX0_keepHands 95 = .ok (.iaload, 1) := by decide +kernel
theorem dX0_keepHands_96 : decode cX0_keepHands 96 = .ok (.aload_n 0, 1) := by decide +kernel
theorem dX0_keepHands_97 : decode cX0_keepHands 97 = .ok (.getfield 11, 3) := by decide +kernel
theorem dX0_keepHands_100 : decode cX0_keepHands 100 = .ok (.iload_n 3, 1) := by decide +kernel
theorem dX0_keepHands_101 : decode cX0_keepHands 101 = .ok (.bipush 61, 2) := by decide +kernel
theorem dX0_keepHands_103 : decode cX0_keepHands 103 = .ok (.imul, 1) := by decide +kernel
theorem dX0_keepHands_104 : decode cX0_keepHands 104 = .ok (.iload 4, 2) := by decide +kernel
theorem dX0_keepHands_106 : decode cX0_keepHands 106 = .ok (.iadd, 1) := by decide +kernel
theorem dX0_keepHands_107 : decode cX0_keepHands 107 = .ok (.iaload, 1) := by decide +kernel
theorem dX0_keepHands_108 : decode cX0_keepHands 108 = .ok (.if_icmp .ne 9, 3) := by decide +kernel
theorem dX0_keepHands_111 : decode cX0_keepHands 111 = .ok (.iinc 3 1, 3) := by decide +kernel
theorem dX0_keepHands_114 : decode cX0_keepHands 114 = .ok (.goto 6, 3) := by decide +kernel
theorem dX0_keepHands_117 : decode cX0_keepHands 117 = .ok (.iinc 4 1, 3) := by decide +kernel
theorem dX0_keepHands_120 : decode cX0_keepHands 120 = .ok (.iinc 6 1, 3) := by decide +kernel
theorem dX0_keepHands_123 : decode cX0_keepHands 123 = .ok (.goto (-104), 3) := by decide +kernel
theorem dX0_keepHands_126 : decode cX0_keepHands 126 = .ok (.return_, 1) := by decide +kernel
theorem dX1_init_0 : decode cX1_init 0 = .ok (.aload_n 0, 1) := by decide +kernel
theorem dX1_init_1 : decode cX1_init 1 = .ok (.invokespecial 3, 3) := by decide +kernel
theorem dX1_init_4 : decode cX1_init 4 = .ok (.aload_n 0, 1) := by decide +kernel
theorem dX1_init_5 : decode cX1_init 5 = .ok (.bipush 40, 2) := by decide +kernel
theorem dX1_init_7 : decode cX1_init 7 = .ok (.newarray .int, 2) := by decide +kernel
theorem dX1_init_9 : decode cX1_init 9 = .ok (.putfield 9, 3) := by decide +kernel
theorem dX1_init_12 : decode cX1_init 12 = .ok (.aload_n 0, 1) := by decide +kernel
theorem dX1_init_13 : decode cX1_init 13 = .ok (.bipush 40, 2) := by decide +kernel
theorem dX1_init_15 : decode cX1_init 15 = .ok (.newarray .boolean, 2) := by decide +kernel
theorem dX1_init_17 : decode cX1_init 17 = .ok (.putfield 15, 3) := by decide +kernel
theorem dX1_init_20 : decode cX1_init 20 = .ok (.aload_n 0, 1) := by decide +kernel
theorem dX1_init_21 : decode cX1_init 21 = .ok (.iconst 0, 1) := by decide +kernel
theorem dX1_init_22 : decode cX1_init 22 = .ok (.putfield 19, 3) := by decide +kernel
theorem dX1_init_25 : decode cX1_init 25 = .ok (.aload_n 0, 1) := by decide +kernel
theorem dX1_init_26 : decode cX1_init 26 = .ok (.iload_n 1, 1) := by decide +kernel
theorem dX1_init_27 : decode cX1_init 27 = .ok (.putfield 23, 3) := by decide +kernel
theorem dX1_init_30 : decode cX1_init 30 = .ok (.aload_n 0, 1) := by decide +kernel
theorem dX1_init_31 : decode cX1_init 31 = .ok (.iload_n 2, 1) := by decide +kernel
theorem dX1_init_32 : decode cX1_init 32 = .ok (.putfield 26, 3) := by decide +kernel
theorem dX1_init_35 : decode cX1_init 35 = .ok (.aload_n 0, 1) := by decide +kernel
theorem dX1_init_36 : decode cX1_init 36 = .ok (.iload_n 3, 1) := by decide +kernel
theorem dX1_init_37 : decode cX1_init 37 = .ok (.putfield 29, 3) := by decide +kernel
theorem dX1_init_40 : decode cX1_init 40 = .ok (.iconst 0, 1) := by decide +kernel
theorem dX1_init_41 : decode cX1_init 41 = .ok (.istore 4, 2) := by decide +kernel
theorem dX1_init_43 : decode cX1_init 43 = .ok (.iload 4, 2) := by decide +kernel
theorem dX1_init_45 : decode cX1_init 45 = .ok (.bipush 40, 2) := by decide +kernel
theorem dX1_init_47 : decode cX1_init 47 = .ok (.if_icmp .ge 17, 3) := by decide +kernel
theorem dX1_init_50 : decode cX1_init 50 = .ok (.aload_n 0, 1) := by decide +kernel
theorem dX1_init_51 : decode cX1_init 51 = .ok (.getfield 9, 3) := by decide +kernel
theorem dX1_init_54 : decode cX1_init 54 = .ok (.iload 4, 2) := by decide +kernel
theorem dX1_init_56 : decode cX1_init 56 = .ok (.iconst (-1), 1) := by decide +kernel
theorem dX1_init_57 : decode cX1_init 57 = .ok (.iastore, 1) := by decide +kernel
theorem dX1_init_58 : decode cX1_init 58 = .ok (.iinc 4 1, 3) := by decide +kernel
theorem dX1_init_61 : decode cX1_init 61 = .ok (.goto (-18), 3) := by decide +kernel
theorem dX1_init_64 : decode cX1_init 64 = .ok (.return_, 1) := by decide +kernel
theorem dX1_showsNear_0 : decode cX1_showsNear 0 = .ok (.bipush 39, 2) := by decide +kernel
theorem dX1_showsNear_2 : decode cX1_showsNear 2 = .ok (.iload_n 2, 1) := by decide +kernel
theorem dX1_showsNear_3 : decode cX1_showsNear 3 = .ok (.iload_n 3, 1) := by decide +kernel
theorem dX1_showsNear_4 : decode cX1_showsNear 4 = .ok (.iadd, 1) := by decide +kernel
theorem dX1_showsNear_5 : decode cX1_showsNear 5 = .ok (.invokestatic 32, 3) := by decide +kernel
theorem dX1_showsNear_8 : decode cX1_showsNear 8 = .ok (.istore 4, 2) := by decide +kernel
theorem dX1_showsNear_10 : decode cX1_showsNear 10 = .ok (.iconst 0, 1) := by decide +kernel
theorem dX1_showsNear_11 : decode cX1_showsNear 11 = .ok (.iload_n 2, 1) := by decide +kernel
theorem dX1_showsNear_12 : decode cX1_showsNear 12 = .ok (.iload_n 3, 1) := by decide +kernel
theorem dX1_showsNear_13 : decode cX1_showsNear 13 = .ok (.isub, 1) := by decide +kernel
theorem dX1_showsNear_14 : decode cX1_showsNear 14 = .ok (.invokestatic 38, 3) := by decide +kernel
theorem dX1_showsNear_17 : decode cX1_showsNear 17 = .ok (.istore 5, 2) := by decide +kernel
theorem dX1_showsNear_19 : decode cX1_showsNear 19 = .ok (.iload 5, 2) := by decide +kernel
theorem dX1_showsNear_21 : decode cX1_showsNear 21 = .ok (.iload 4, 2) := by decide +kernel
theorem dX1_showsNear_23 : decode cX1_showsNear 23 = .ok (.if_icmp .gt 22, 3) := by decide +kernel
theorem dX1_showsNear_26 : decode cX1_showsNear 26 = .ok (.aload_n 0, 1) := by decide +kernel
theorem dX1_showsNear_27 : decode cX1_showsNear 27 = .ok (.getfield 9, 3) := by decide +kernel
theorem dX1_showsNear_30 : decode cX1_showsNear 30 = .ok (.iload 5, 2) := by decide +kernel
theorem dX1_showsNear_32 : decode cX1_showsNear 32 = .ok (.iaload, 1) := by decide +kernel
theorem dX1_showsNear_33 : decode cX1_showsNear 33 = .ok (.iload_n 1, 1) := by decide +kernel
theorem dX1_showsNear_34 : decode cX1_showsNear 34 = .ok (.if_icmp .ne 5, 3) := by decide +kernel
theorem dX1_showsNear_37 : decode cX1_showsNear 37 = .ok (.iconst 1, 1) := by decide +kernel
theorem dX1_showsNear_38 : decode cX1_showsNear 38 = .ok (.ireturn, 1) := by decide +kernel
theorem dX1_showsNear_39 : decode cX1_showsNear 39 = .ok (.iinc 5 1, 3) := by decide +kernel
theorem dX1_showsNear_42 : decode cX1_showsNear 42 = .ok (.goto (-23), 3) := by decide +kernel
theorem dX1_showsNear_45 : decode cX1_showsNear 45 = .ok (.iconst 0, 1) := by decide +kernel
theorem dX1_showsNear_46 : decode cX1_showsNear 46 = .ok (.ireturn, 1) := by decide +kernel
theorem dX1_giveBack_0 : decode cX1_giveBack 0 = .ok (.iconst 0, 1) := by decide +kernel
theorem dX1_giveBack_1 : decode cX1_giveBack 1 = .ok (.istore_n 3, 1) := by decide +kernel
theorem dX1_giveBack_2 : decode cX1_giveBack 2 = .ok (.iload_n 3, 1) := by decide +kernel
theorem dX1_giveBack_3 : decode cX1_giveBack 3 = .ok (.bipush 40, 2) := by decide +kernel
theorem dX1_giveBack_5 : decode cX1_giveBack 5 = .ok (.if_icmp .ge 26, 3) := by decide +kernel
theorem dX1_giveBack_8 : decode cX1_giveBack 8 = .ok (.lload_n 1, 1) := by decide +kernel
theorem dX1_giveBack_9 : decode cX1_giveBack 9 = .ok (.iload_n 3, 1) := by decide +kernel
theorem dX1_giveBack_10 : decode cX1_giveBack 10 = .ok (.lshr, 1) := by decide +kernel
theorem dX1_giveBack_11 : decode cX1_giveBack 11 = .ok (.lconst 1, 1) := by decide +kernel
theorem dX1_giveBack_12 : decode cX1_giveBack 12 = .ok (.land, 1) := by decide +kernel
theorem dX1_giveBack_13 : decode cX1_giveBack 13 = .ok (.lconst 1, 1) := by decide +kernel
theorem dX1_giveBack_14 : decode cX1_giveBack 14 = .ok (.lcmp, 1) := by decide +kernel
theorem dX1_giveBack_15 : decode cX1_giveBack 15 = .ok (.ifCond .ne 10, 3) := by decide +kernel
theorem dX1_giveBack_18 : decode cX1_giveBack 18 = .ok (.aload_n 0, 1) := by decide +kernel
theorem dX1_giveBack_19 : decode cX1_giveBack 19 = .ok (.getfield 9, 3) := by decide +kernel
theorem dX1_giveBack_22 : decode cX1_giveBack 22 = .ok (.iload_n 3, 1) := by decide +kernel
theorem dX1_giveBack_23 : decode cX1_giveBack 23 = .ok (.iconst (-1), 1) := by decide +kernel
theorem dX1_giveBack_24 : decode cX1_giveBack 24 = .ok (.iastore, 1) := by decide +kernel
theorem dX1_giveBack_25 : decode cX1_giveBack 25 = .ok (.iinc 3 1, 3) := by decide +kernel
theorem dX1_giveBack_28 : decode cX1_giveBack 28 = .ok (.goto (-26), 3) := by decide +kernel
theorem dX1_giveBack_31 : decode cX1_giveBack 31 = .ok (.return_, 1) := by decide +kernel
theorem dX2_init_0 : decode cX2_init 0 = .ok (.aload_n 0, 1) := by decide +kernel
theorem dX2_init_1 : decode cX2_init 1 = .ok (.invokespecial 3, 3) := by decide +kernel
theorem dX2_init_4 : decode cX2_init 4 = .ok (.aload_n 0, 1) := by decide +kernel
theorem dX2_init_5 : decode cX2_init 5 = .ok (.bipush 8, 2) := by decide +kernel
theorem dX2_init_7 : decode cX2_init 7 = .ok (.newarray .int, 2) := by decide +kernel
theorem dX2_init_9 : decode cX2_init 9 = .ok (.putfield 9, 3) := by decide +kernel
theorem dX2_init_12 : decode cX2_init 12 = .ok (.aload_n 0, 1) := by decide +kernel
theorem dX2_init_13 : decode cX2_init 13 = .ok (.bipush 8, 2) := by decide +kernel
theorem dX2_init_15 : decode cX2_init 15 = .ok (.newarray .int, 2) := by decide +kernel
theorem dX2_init_17 : decode cX2_init 17 = .ok (.putfield 15, 3) := by decide +kernel
theorem dX2_init_20 : decode cX2_init 20 = .ok (.aload_n 0, 1) := by decide +kernel
theorem dX2_init_21 : decode cX2_init 21 = .ok (.iconst 0, 1) := by decide +kernel
theorem dX2_init_22 : decode cX2_init 22 = .ok (.putfield 18, 3) := by decide +kernel
theorem dX2_init_25 : decode cX2_init 25 = .ok (.return_, 1) := by decide +kernel
theorem dX2_strike_0 : decode cX2_strike 0 = .ok (.aload_n 0, 1) := by decide +kernel
theorem dX2_strike_1 : decode cX2_strike 1 = .ok (.getfield 18, 3) := by decide +kernel
theorem dX2_strike_4 : decode cX2_strike 4 = .ok (.bipush 8, 2) := by decide +kernel
theorem dX2_strike_6 : decode cX2_strike 6 = .ok (.if_icmp .ge 33, 3) := by decide +kernel
theorem dX2_strike_9 : decode cX2_strike 9 = .ok (.aload_n 0, 1) := by decide +kernel
theorem dX2_strike_10 : decode cX2_strike 10 = .ok (.getfield 9, 3) := by decide +kernel
theorem dX2_strike_13 : decode cX2_strike 13 = .ok (.aload_n 0, 1) := by decide +kernel
theorem dX2_strike_14 : decode cX2_strike 14 = .ok (.getfield 18, 3) := by decide +kernel
theorem dX2_strike_17 : decode cX2_strike 17 = .ok (.iload_n 1, 1) := by decide +kernel
theorem dX2_strike_18 : decode cX2_strike 18 = .ok (.iastore, 1) := by decide +kernel
theorem dX2_strike_19 : decode cX2_strike 19 = .ok (.aload_n 0, 1) := by decide +kernel
theorem dX2_strike_20 : decode cX2_strike 20 = .ok (.getfield 15, 3) := by decide +kernel
theorem dX2_strike_23 : decode cX2_strike 23 = .ok (.aload_n 0, 1) := by decide +kernel
theorem dX2_strike_24 : decode cX2_strike 24 = .ok (.getfield 18, 3) := by decide +kernel
theorem dX2_strike_27 : decode cX2_strike 27 = .ok (.iload_n 2, 1) := by decide +kernel
theorem dX2_strike_28 : decode cX2_strike 28 = .ok (.iastore, 1) := by decide +kernel
theorem dX2_strike_29 : decode cX2_strike 29 = .ok (.aload_n 0, 1) := by decide +kernel
theorem dX2_strike_30 : decode cX2_strike 30 = .ok (.dup, 1) := by decide +kernel
theorem dX2_strike_31 : decode cX2_strike 31 = .ok (.getfield 18, 3) := by decide +kernel
theorem dX2_strike_34 : decode cX2_strike 34 = .ok (.iconst 1, 1) := by decide +kernel
theorem dX2_strike_35 : decode cX2_strike 35 = .ok (.iadd, 1) := by decide +kernel
theorem dX2_strike_36 : decode cX2_strike 36 = .ok (.putfield 18, 3) := by decide +kernel
theorem dX2_strike_39 : decode cX2_strike 39 = .ok (.return_, 1) := by decide +kernel
theorem dX2_areAgainst_0 : decode cX2_areAgainst 0 = .ok (.iconst 0, 1) := by decide +kernel
theorem dX2_areAgainst_1 : decode cX2_areAgainst 1 = .ok (.istore_n 3, 1) := by decide +kernel
theorem dX2_areAgainst_2 : decode cX2_areAgainst 2 = .ok (.iload_n 3, 1) := by decide +kernel
theorem dX2_areAgainst_3 : decode cX2_areAgainst 3 = .ok (.aload_n 0, 1) := by decide +kernel
theorem dX2_areAgainst_4 : decode cX2_areAgainst 4 = .ok (.getfield 18, 3) := by decide +kernel
theorem dX2_areAgainst_7 : decode cX2_areAgainst 7 = .ok (.if_icmp .ge 31, 3) := by decide +kernel
theorem dX2_areAgainst_10 : decode cX2_areAgainst 10 = .ok (.aload_n 0, 1) := by decide +kernel
theorem dX2_areAgainst_11 : decode cX2_areAgainst 11 = .ok (.getfield 9, 3) := by decide +kernel
theorem dX2_areAgainst_14 : decode cX2_areAgainst 14 = .ok (.iload_n 3, 1) := by decide +kernel
theorem dX2_areAgainst_15 : decode cX2_areAgainst 15 = .ok (.iaload, 1) := by decide +kernel
theorem dX2_areAgainst_16 : decode cX2_areAgainst 16 = .ok (.iload_n 1, 1) := by decide +kernel
theorem dX2_areAgainst_17 : decode cX2_areAgainst 17 = .ok (.if_icmp .ne 15, 3) := by decide +kernel
theorem dX2_areAgainst_20 : decode cX2_areAgainst 20 = .ok (.aload_n 0, 1) := by decide +kernel
theorem dX2_areAgainst_21 : decode cX2_areAgainst 21 = .ok (.getfield 15, 3) := by decide +kernel
theorem dX2_areAgainst_24 : decode cX2_areAgainst 24 = .ok (.iload_n 3, 1) := by decide +kernel
theorem dX2_areAgainst_25 : decode cX2_areAgainst 25 = .ok (.iaload, 1) := by decide +kernel
theorem dX2_areAgainst_26 : decode cX2_areAgainst 26 = .ok (.iload_n 2, 1) := by decide +kernel
theorem dX2_areAgainst_27 : decode cX2_areAgainst 27 = .ok (.if_icmp .gt 5, 3) := by decide +kernel
theorem dX2_areAgainst_30 : decode cX2_areAgainst 30 = .ok (.iconst 1, 1) := by decide +kernel
theorem dX2_areAgainst_31 : decode cX2_areAgainst 31 = .ok (.ireturn, 1) := by decide +kernel
theorem dX2_areAgainst_32 : decode cX2_areAgainst 32 = .ok (.iinc 3 1, 3) := by decide +kernel
theorem dX2_areAgainst_35 : decode cX2_areAgainst 35 = .ok (.goto (-33), 3) := by decide +kernel
theorem dX2_areAgainst_38 : decode cX2_areAgainst 38 = .ok (.iconst 0, 1) := by decide +kernel
theorem dX2_areAgainst_39 : decode cX2_areAgainst 39 = .ok (.ireturn, 1) := by decide +kernel
theorem dX3_init_0 : decode cX3_init 0 = .ok (.aload_n 0, 1) := by decide +kernel
theorem dX3_init_1 : decode cX3_init 1 = .ok (.invokespecial 3, 3) := by decide +kernel
theorem dX3_init_4 : decode cX3_init 4 = .ok (.aload_n 0, 1) := by decide +kernel
theorem dX3_init_5 : decode cX3_init 5 = .ok (.bipush 16, 2) := by decide +kernel
theorem dX3_init_7 : decode cX3_init 7 = .ok (.newarray .int, 2) := by decide +kernel
theorem dX3_init_9 : decode cX3_init 9 = .ok (.putfield 9, 3) := by decide +kernel
theorem dX3_init_12 : decode cX3_init 12 = .ok (.aload_n 0, 1) := by decide +kernel
theorem dX3_init_13 : decode cX3_init 13 = .ok (.iconst 0, 1) := by decide +kernel
theorem dX3_init_14 : decode cX3_init 14 = .ok (.putfield 15, 3) := by decide +kernel
theorem dX3_init_17 : decode cX3_init 17 = .ok (.aload_n 0, 1) := by decide +kernel
theorem dX3_init_18 : decode cX3_init 18 = .ok (.iconst 0, 1) := by decide +kernel
theorem dX3_init_19 : decode cX3_init 19 = .ok (.putfield 19, 3) := by decide +kernel
theorem dX3_init_22 : decode cX3_init 22 = .ok (.aload_n 0, 1) := by decide +kernel
theorem dX3_init_23 : decode cX3_init 23 = .ok (.bipush 8, 2) := by decide +kernel
theorem dX3_init_25 : decode cX3_init 25 = .ok (.newarray .int, 2) := by decide +kernel
theorem dX3_init_27 : decode cX3_init 27 = .ok (.putfield 22, 3) := by decide +kernel
theorem dX3_init_30 : decode cX3_init 30 = .ok (.aload_n 0, 1) := by decide +kernel
theorem dX3_init_31 : decode cX3_init 31 = .ok (.bipush 8, 2) := by decide +kernel
theorem dX3_init_33 : decode cX3_init 33 = .ok (.newarray .int, 2) := by decide +kernel
theorem dX3_init_35 : decode cX3_init 35 = .ok (.putfield 25, 3) := by decide +kernel
theorem dX3_init_38 : decode cX3_init 38 = .ok (.aload_n 0, 1) := by decide +kernel
theorem dX3_init_39 : decode cX3_init 39 = .ok (.aconst_null, 1) := by decide +kernel
theorem dX3_init_40 : decode cX3_init 40 = .ok (.putfield 28, 3) := by decide +kernel
theorem dX3_init_43 : decode cX3_init 43 = .ok (.aload_n 0, 1) := by decide +kernel
theorem dX3_init_44 : decode cX3_init 44 = .ok (.sipush 256, 3) := by decide +kernel
theorem dX3_init_47 : decode cX3_init 47 = .ok (.newarray .int, 2) := by decide +kernel
theorem dX3_init_49 : decode cX3_init 49 = .ok (.putfield 32, 3) := by decide +kernel
theorem dX3_init_52 : decode cX3_init 52 = .ok (.aload_n 0, 1) := by decide +kernel
theorem dX3_init_53 : decode cX3_init 53 = .ok (.sipush 2048, 3) := by decide +kernel
theorem dX3_init_56 : decode cX3_init 56 = .ok (.newarray .int, 2) := by decide +kernel
theorem dX3_init_58 : decode cX3_init 58 = .ok (.putfield 35, 3) := by decide +kernel
theorem dX3_init_61 : decode cX3_init 61 = .ok (.return_, 1) := by decide +kernel
theorem dX3_forget_0 : decode cX3_forget 0 = .ok (.aload_n 0, 1) := by decide +kernel
theorem dX3_forget_1 : decode cX3_forget 1 = .ok (.aconst_null, 1) := by decide +kernel
theorem dX3_forget_2 : decode cX3_forget 2 = .ok (.putfield 28, 3) := by decide +kernel
theorem dX3_forget_5 : decode cX3_forget 5 = .ok (.return_, 1) := by decide +kernel
theorem dX3_bestCost_0 : decode cX3_bestCost 0 = .ok (.aload_n 0, 1) := by decide +kernel
theorem dX3_bestCost_1 : decode cX3_bestCost 1 = .ok (.getfield 35, 3) := by decide +kernel
theorem dX3_bestCost_4 : decode cX3_bestCost 4 = .ok (.iconst 0, 1) := by decide +kernel
theorem dX3_bestCost_5 : decode cX3_bestCost 5 = .ok (.iaload, 1) := by decide +kernel
theorem dX3_bestCost_6 : decode cX3_bestCost 6 = .ok (.ireturn, 1) := by decide +kernel
theorem dX3_findBest_0 : decode cX3_findBest 0 = .ok (.aload_n 0, 1) := by decide +kernel
theorem dX3_findBest_1 : decode cX3_findBest 1 = .ok (.getfield 28, 3) := by decide +kernel
theorem dX3_findBest_4 : decode cX3_findBest 4 = .ok (.aload_n 1, 1) := by decide +kernel
theorem dX3_findBest_5 : decode cX3_findBest 5 = .ok (.if_acmp .ne 4, 3) := by decide +kernel
theorem dX3_findBest_8 : decode cX3_findBest 8 = .ok (.return_, 1) := by decide +kernel
theorem dX3_findBest_9 : decode cX3_findBest 9 = .ok (.aload_n 0, 1) := by decide +kernel
theorem dX3_findBest_10 : decode cX3_findBest 10 = .ok (.aload_n 1, 1) := by decide +kernel
theorem dX3_findBest_11 : decode cX3_findBest 11 = .ok (.putfield 28, 3) := by decide +kernel
theorem dX3_findBest_14 : decode cX3_findBest 14 = .ok (.iconst 1, 1) := by decide +kernel
theorem dX3_findBest_15 : decode cX3_findBest 15 = .ok (.aload_n 1, 1) := by decide +kernel
theorem dX3_findBest_16 : decode cX3_findBest 16 = .ok (.getfield 38, 3) := by decide +kernel
theorem dX3_findBest_19 : decode cX3_findBest 19 = .ok (.ishl, 1) := by decide +kernel
theorem dX3_findBest_20 : decode cX3_findBest 20 = .ok (.iconst 1, 1) := by decide +kernel
theorem dX3_findBest_21 : decode cX3_findBest 21 = .ok (.isub, 1) := by decide +kernel
theorem dX3_findBest_22 : decode cX3_findBest 22 = .ok (.istore_n 2, 1) := by decide +kernel
theorem dX3_findBest_23 : decode cX3_findBest 23 = .ok (.aload_n 0, 1) := by decide +kernel
theorem dX3_findBest_24 : decode cX3_findBest 24 = .ok (.getfield 32, 3) := by decide +kernel
theorem dX3_findBest_27 : decode cX3_findBest 27 = .ok (.iconst 0, 1) := by decide +kernel
theorem dX3_findBest_28 : decode cX3_findBest 28 = .ok (.iconst 0, 1) := by decide +kernel
theorem dX3_findBest_29 : decode cX3_findBest 29 = .ok (.iastore, 1) := by decide +kernel
theorem dX3_findBest_30 : decode cX3_findBest 30 = .ok (.iconst 1, 1) := by decide +kernel
theorem dX3_findBest_31 : decode cX3_findBest 31 = .ok (.istore_n 3, 1) := by decide +kernel
theorem dX3_findBest_32 : decode cX3_findBest 32 = .ok (.iload_n 3, 1) := by decide +kernel
theorem dX3_findBest_33 : decode cX3_findBest 33 = .ok (.iload_n 2, 1) := by decide +kernel
theorem dX3_findBest_34 : decode cX3_findBest 34 = .ok (.if_icmp .gt 42, 3) := by decide +kernel
theorem dX3_findBest_37 : decode cX3_findBest 37 = .ok (.iload_n 3, 1) := by decide +kernel
theorem dX3_findBest_38 : decode cX3_findBest 38 = .ok (.invokestatic 43, 3) := by decide +kernel
theorem dX3_findBest_41 : decode cX3_findBest 41 = .ok (.istore 4, 2) := by decide +kernel
theorem dX3_findBest_43 : decode cX3_findBest 43 = .ok (.aload_n 0, 1) := by decide +kernel
theorem dX3_findBest_44 : decode cX3_findBest 44 = .ok (.getfield 32, 3) := by decide +kernel
theorem dX3_findBest_47 : decode cX3_findBest 47 = .ok (.iload_n 3, 1) := by decide +kernel
theorem dX3_findBest_48 : decode cX3_findBest 48 = .ok (.aload_n 0, 1) := by decide +kernel
theorem dX3_findBest_49 : decode cX3_findBest 49 = .ok (.getfield 32, 3) := by decide +kernel
theorem dX3_findBest_52 : decode cX3_findBest 52 = .ok (.iload_n 3, 1) := by decide +kernel
theorem dX3_findBest_53 : decode cX3_findBest 53 = .ok (.iload_n 3, 1) := by decide +kernel
theorem dX3_findBest_54 : decode cX3_findBest 54 = .ok (.iconst 1, 1) := by decide +kernel
theorem dX3_findBest_55 : decode cX3_findBest 55 = .ok (.isub, 1) := by decide +kernel
theorem dX3_findBest_56 : decode cX3_findBest 56 = .ok (.iand, 1) := by decide +kernel
theorem dX3_findBest_57 : decode cX3_findBest 57 = .ok (.iaload, 1) := by decide +kernel
theorem dX3_findBest_58 : decode cX3_findBest 58 = .ok (.aload_n 1, 1) := by decide +kernel
theorem dX3_findBest_59 : decode cX3_findBest 59 = .ok (.getfield 49, 3) := by decide +kernel
theorem dX3_findBest_62 : decode cX3_findBest 62 = .ok (.iload 4, 2) := by decide +kernel
theorem dX3_findBest_64 : decode cX3_findBest 64 = .ok (.aaload, 1) := by decide +kernel
theorem dX3_findBest_65 : decode cX3_findBest 65 = .ok (.getfield 53, 3) := by decide +kernel
theorem dX3_findBest_68 : decode cX3_findBest 68 = .ok (.ior, 1) := by decide +kernel
theorem dX3_findBest_69 : decode cX3_findBest 69 = .ok (.iastore, 1) := by decide +kernel
theorem dX3_findBest_70 : decode cX3_findBest 70 = .ok (.iinc 3 1, 3) := by decide +kernel
theorem dX3_findBest_73 : decode cX3_findBest 73 = .ok (.goto (-41), 3) := by decide +kernel
theorem dX3_findBest_76 : decode cX3_findBest 76 = .ok (.aload_n 0, 1) := by decide +kernel
theorem dX3_findBest_77 : decode cX3_findBest 77 = .ok (.aload_n 1, 1) := by decide +kernel
theorem dX3_findBest_78 : decode cX3_findBest 78 = .ok (.iload_n 2, 1) := by decide +kernel
theorem dX3_findBest_79 : decode cX3_findBest 79 = .ok (.invokevirtual 58, 3) := by decide +kernel
theorem dX3_findBest_82 : decode cX3_findBest 82 = .ok (.aload_n 0, 1) := by decide +kernel
theorem dX3_findBest_83 : decode cX3_findBest 83 = .ok (.aload_n 1, 1) := by decide +kernel
theorem dX3_findBest_84 : decode cX3_findBest 84 = .ok (.iload_n 2, 1) := by decide +kernel
theorem dX3_findBest_85 : decode cX3_findBest 85 = .ok (.invokevirtual 62, 3) := by decide +kernel
theorem dX3_findBest_88 : decode cX3_findBest 88 = .ok (.return_, 1) := by decide +kernel
theorem dX3_fillLeast_0 : decode cX3_fillLeast 0 = .ok (.iconst 0, 1) := by decide +kernel
theorem dX3_fillLeast_1 : decode cX3_fillLeast 1 = .ok (.istore_n 3, 1) := by decide +kernel
theorem dX3_fillLeast_2 : decode cX3_fillLeast 2 = .ok (.iload_n 3, 1) := by decide +kernel
theorem dX3_fillLeast_3 : decode cX3_fillLeast 3 = .ok (.bipush 8, 2) := by decide +kernel
theorem dX3_fillLeast_5 : decode cX3_fillLeast 5 = .ok (.if_icmp .ge 21, 3) := by decide +kernel
theorem dX3_fillLeast_8 : decode cX3_fillLeast 8 = .ok (.aload_n 0, 1) := by decide +kernel
theorem dX3_fillLeast_9 : decode cX3_fillLeast 9 = .ok (.getfield 35, 3) := by decide +kernel
theorem dX3_fillLeast_12 : decode cX3_fillLeast 12 = .ok (.iload_n 2, 1) := by decide +kernel
theorem dX3_fillLeast_13 : decode cX3_fillLeast 13 = .ok (.bipush 8, 2) := by decide +kernel
theorem dX3_fillLeast_15 : decode cX3_fillLeast 15 = .ok (.imul, 1) := by decide +kernel
theorem dX3_fillLeast_16 : decode cX3_fillLeast 16 = .ok (.iload_n 3, 1) := by decide +kernel
theorem dX3_fillLeast_17 : decode cX3_fillLeast 17 = .ok (.iadd, 1) := by decide +kernel
theorem dX3_fillLeast_18 : decode cX3_fillLeast 18 = .ok (.iconst 0, 1) := by decide +kernel
theorem dX3_fillLeast_19 : decode cX3_fillLeast 19 = .ok (.iastore, 1) := by decide +kernel
theorem dX3_fillLeast_20 : decode cX3_fillLeast 20 = .ok (.iinc 3 1, 3) := by decide +kernel
theorem dX3_fillLeast_23 : decode cX3_fillLeast 23 = .ok (.goto (-21), 3) := by decide +kernel
theorem dX3_fillLeast_26 : decode cX3_fillLeast 26 = .ok (.iload_n 2, 1) := by decide +kernel
theorem dX3_fillLeast_27 : decode cX3_fillLeast 27 = .ok (.iconst 1, 1) := by decide +kernel
theorem dX3_fillLeast_28 : decode cX3_fillLeast 28 = .ok (.isub, 1) := by decide +kernel
theorem dX3_fillLeast_29 : decode cX3_fillLeast 29 = .ok (.istore_n 3, 1) := by decide +kernel
theorem dX3_fillLeast_30 : decode cX3_fillLeast 30 = .ok (.iload_n 3, 1) := by decide +kernel
theorem dX3_fillLeast_31 : decode cX3_fillLeast 31 = .ok (.ifCond .lt 75, 3) := by decide +kernel
theorem dX3_fillLeast_34 : decode cX3_fillLeast 34 = .ok (.iconst 0, 1) := by decide +kernel
theorem dX3_fillLeast_35 : decode cX3_fillLeast 35 = .ok (.istore 4, 2) := by decide +kernel
theorem dX3_fillLeast_37 : decode cX3_fillLeast 37 = .ok (.iload 4, 2) := by decide +kernel
theorem dX3_fillLeast_39 : decode cX3_fillLeast 39 = .ok (.bipush 8, 2) := by decide +kernel
theorem dX3_fillLeast_41 : decode cX3_fillLeast 41 = .ok (.if_icmp .ge 23, 3) := by decide +kernel
theorem dX3_fillLeast_44 : decode cX3_fillLeast 44 = .ok (.aload_n 0, 1) := by decide +kernel
theorem dX3_fillLeast_45 : decode cX3_fillLeast 45 = .ok (.getfield 35, 3) := by decide +kernel
theorem dX3_fillLeast_48 : decode cX3_fillLeast 48 = .ok (.iload_n 3, 1) := by decide +kernel
theorem dX3_fillLeast_49 : decode cX3_fillLeast 49 = .ok (.bipush 8, 2) := by decide +kernel
theorem dX3_fillLeast_51 : decode cX3_fillLeast 51 = .ok (.imul, 1) := by decide +kernel
theorem dX3_fillLeast_52 : decode cX3_fillLeast 52 = .ok (.iload 4, 2) := by decide +kernel
theorem dX3_fillLeast_54 : decode cX3_fillLeast 54 = .ok (.iadd, 1) := by decide +kernel
theorem dX3_fillLeast_55 : decode cX3_fillLeast 55 = .ok (.ldc 65, 2) := by decide +kernel
theorem dX3_fillLeast_57 : decode cX3_fillLeast 57 = .ok (.iastore, 1) := by decide +kernel
theorem dX3_fillLeast_58 : decode cX3_fillLeast 58 = .ok (.iinc 4 1, 3) := by decide +kernel
theorem dX3_fillLeast_61 : decode cX3_fillLeast 61 = .ok (.goto (-24), 3) := by decide +kernel
theorem dX3_fillLeast_64 : decode cX3_fillLeast 64 = .ok (.iconst 0, 1) := by decide +kernel
theorem dX3_fillLeast_65 : decode cX3_fillLeast 65 = .ok (.istore 4, 2) := by decide +kernel
theorem dX3_fillLeast_67 : decode cX3_fillLeast 67 = .ok (.iload 4, 2) := by decide +kernel
theorem dX3_fillLeast_69 : decode cX3_fillLeast 69 = .ok (.aload_n 1, 1) := by decide +kernel
theorem dX3_fillLeast_70 : decode cX3_fillLeast 70 = .ok (.getfield 38, 3) := by decide +kernel
theorem dX3_fillLeast_73 : decode cX3_fillLeast 73 = .ok (.if_icmp .ge 27, 3) := by decide +kernel
theorem dX3_fillLeast_76 : decode cX3_fillLeast 76 = .ok (.iload_n 3, 1) := by decide +kernel
theorem dX3_fillLeast_77 : decode cX3_fillLeast 77 = .ok (.iload 4, 2) := by decide +kernel
theorem dX3_fillLeast_79 : decode cX3_fillLeast 79 = .ok (.ishr, 1) := by decide +kernel
theorem dX3_fillLeast_80 : decode cX3_fillLeast 80 = .ok (.iconst 1, 1) := by decide +kernel
theorem dX3_fillLeast_81 : decode cX3_fillLeast 81 = .ok (.iand, 1) := by decide +kernel
theorem dX3_fillLeast_82 : decode cX3_fillLeast 82 = .ok (.ifCond .ne 12, 3) := by decide +kernel
theorem dX3_fillLeast_85 : decode cX3_fillLeast 85 = .ok (.aload_n 0, 1) := by decide +kernel
theorem dX3_fillLeast_86 : decode cX3_fillLeast 86 = .ok (.aload_n 1, 1) := by decide +kernel
theorem dX3_fillLeast_87 : decode cX3_fillLeast 87 = .ok (.iload_n 2, 1) := by decide +kernel
theorem dX3_fillLeast_88 : decode cX3_fillLeast 88 = .ok (.iload_n 3, 1) := by decide +kernel
theorem dX3_fillLeast_89 : decode cX3_fillLeast 89 = .ok (.iload 4, 2) := by decide +kernel
theorem dX3_fillLeast_91 : decode cX3_fillLeast 91 = .ok (.invokevirtual 66, 3) := by decide +kernel
theorem dX3_fillLeast_94 : decode cX3_fillLeast 94 = .ok (.iinc 4 1, 3) := by decide +kernel
theorem dX3_fillLeast_97 : decode cX3_fillLeast 97 = .ok (.goto (-30), 3) := by decide +kernel
theorem dX3_fillLeast_100 : decode cX3_fillLeast 100 = .ok (.iinc 3 (-1), 3) := by decide +kernel
theorem dX3_fillLeast_103 : decode cX3_fillLeast 103 = .ok (.goto (-73), 3) := by decide +kernel
theorem dX3_fillLeast_106 : decode cX3_fillLeast 106 = .ok (.return_, 1) := by decide +kernel
theorem dX3_fillWithNext_0 : decode cX3_fillWithNext 0 = .ok (.aload_n 0, 1) := by decide +kernel
theorem dX3_fillWithNext_1 : decode cX3_fillWithNext 1 = .ok (.aload_n 1, 1) := by decide +kernel
theorem dX3_fillWithNext_2 : decode cX3_fillWithNext 2 = .ok (.iload_n 2, 1) := by decide +kernel
theorem dX3_fillWithNext_3 : decode cX3_fillWithNext 3 = .ok (.iload_n 3, 1) := by decide +kernel
theorem dX3_fillWithNext_4 : decode cX3_fillWithNext 4 = .ok (.iload 4, 2) := by decide +kernel
theorem dX3_fillWithNext_6 : decode cX3_fillWithNext 6 = .ok (.invokevirtual 70, 3) := by decide +kernel
theorem dX3_fillWithNext_9 : decode cX3_fillWithNext 9 = .ok (.istore 5, 2) := by decide +kernel
theorem dX3_fillWithNext_11 : decode cX3_fillWithNext 11 = .ok (.iconst 0, 1) := by decide +kernel
theorem dX3_fillWithNext_12 : decode cX3_fillWithNext 12 = .ok (.istore 6, 2) := by decide +kernel
theorem dX3_fillWithNext_14 : decode cX3_fillWithNext 14 = .ok (.iload 6, 2) := by decide +kernel
theorem dX3_fillWithNext_16 : decode cX3_fillWithNext 16 = .ok (.aload_n 1, 1) := by decide +kernel
theorem dX3_fillWithNext_17 : decode cX3_fillWithNext 17 = .ok (.getfield 38, 3) := by decide +kernel
theorem dX3_fillWithNext_20 : decode cX3_fillWithNext 20 = .ok (.if_icmp .ge 74, 3) := by decide +kernel
theorem dX3_fillWithNext_23 : decode cX3_fillWithNext 23 = .ok (.iload_n 3, 1) := by decide +kernel
theorem dX3_fillWithNext_24 : decode cX3_fillWithNext 24 = .ok (.ifCond .ne 11, 3) := by decide +kernel
theorem dX3_fillWithNext_27 : decode cX3_fillWithNext 27 = .ok (.iload 6, 2) := by decide +kernel
theorem dX3_fillWithNext_29 : decode cX3_fillWithNext 29 = .ok (.ifCond .ne 59, 3) := by decide +kernel
theorem dX3_fillWithNext_32 : decode cX3_fillWithNext 32 = .ok (.goto 13, 3) := by decide +kernel
theorem dX3_fillWithNext_35 : decode cX3_fillWithNext 35 = .ok (.iload_n 3, 1) := by decide +kernel
theorem dX3_fillWithNext_36 : decode cX3_fillWithNext 36 = .ok (.iload 6, 2) := by decide +kernel
theorem dX3_fillWithNext_38 : decode cX3_fillWithNext 38 = .ok (.ishr, 1) := by decide +kernel
theorem dX3_fillWithNext_39 : decode cX3_fillWithNext 39 = .ok (.iconst 1, 1) := by decide +kernel
theorem dX3_fillWithNext_40 : decode cX3_fillWithNext 40 = .ok (.iand, 1) := by decide +kernel
theorem dX3_fillWithNext_41 : decode cX3_fillWithNext 41 = .ok (.iconst 1, 1) := by decide +kernel
theorem dX3_fillWithNext_42 : decode cX3_fillWithNext 42 = .ok (.if_icmp .ne 46, 3) := by decide +kernel
theorem dX3_fillWithNext_45 : decode cX3_fillWithNext 45 = .ok (.iload_n 3, 1) := by decide +kernel
theorem dX3_fillWithNext_46 : decode cX3_fillWithNext 46 = .ok (.bipush 8, 2) := by decide +kernel
theorem dX3_fillWithNext_48 : decode cX3_fillWithNext 48 = .ok (.imul, 1) := by decide +kernel
theorem dX3_fillWithNext_49 : decode cX3_fillWithNext 49 = .ok (.iload 6, 2) := by decide +kernel
theorem dX3_fillWithNext_51 : decode cX3_fillWithNext 51 = .ok (.iadd, 1) := by decide +kernel
theorem dX3_fillWithNext_52 : decode cX3_fillWithNext 52 = .ok (.istore 7, 2) := by decide +kernel
theorem dX3_fillWithNext_54 : decode cX3_fillWithNext 54 = .ok (.iload 5, 2) := by decide +kernel
theorem dX3_fillWithNext_56 : decode cX3_fillWithNext 56 = .ok (.aload_n 0, 1) := by decide +kernel
theorem dX3_fillWithNext_57 : decode cX3_fillWithNext 57 = .ok (.aload_n 1, 1) := by decide +kernel
theorem dX3_fillWithNext_58 : decode cX3_fillWithNext 58 = .ok (.iload_n 3, 1) := by decide +kernel
theorem dX3_fillWithNext_59 : decode cX3_fillWithNext 59 = .ok (.iload 6, 2) := by decide +kernel
theorem dX3_fillWithNext_61 : decode cX3_fillWithNext 61 = .ok (.iload 4, 2) := by decide +kernel
theorem dX3_fillWithNext_63 : decode cX3_fillWithNext 63 = .ok (.invokevirtual 74, 3) := by decide +kernel
theorem dX3_fillWithNext_66 : decode cX3_fillWithNext 66 = .ok (.iadd, 1) := by decide +kernel
theorem dX3_fillWithNext_67 : decode cX3_fillWithNext 67 = .ok (.istore 8, 2) := by decide +kernel
theorem dX3_fillWithNext_69 : decode cX3_fillWithNext 69 = .ok (.aload_n 0, 1) := by decide +kernel
theorem dX3_fillWithNext_70 : decode cX3_fillWithNext 70 = .ok (.getfield 35, 3) := by decide +kernel
theorem dX3_fillWithNext_73 : decode cX3_fillWithNext 73 = .ok (.iload 7, 2) := by decide +kernel
theorem dX3_fillWithNext_75 : decode cX3_fillWithNext 75 = .ok (.aload_n 0, 1) := by decide +kernel
theorem dX3_fillWithNext_76 : decode cX3_fillWithNext 76 = .ok (.getfield 35, 3) := by decide +kernel
theorem dX3_fillWithNext_79 : decode cX3_fillWithNext 79 = .ok (.iload 7, 2) := by decide +kernel
theorem dX3_fillWithNext_81 : decode cX3_fillWithNext 81 = .ok (.iaload, 1) := by decide +kernel
theorem dX3_fillWithNext_82 : decode cX3_fillWithNext 82 = .ok (.iload 8, 2) := by decide +kernel
theorem dX3_fillWithNext_84 : decode cX3_fillWithNext 84 = .ok (.invokestatic 77, 3) := by decide +kernel
theorem dX3_fillWithNext_87 : decode cX3_fillWithNext 87 = .ok (.iastore, 1) := by decide +kernel
theorem dX3_fillWithNext_88 : decode cX3_fillWithNext 88 = .ok (.iinc 6 1, 3) := by decide +kernel
theorem dX3_fillWithNext_91 : decode cX3_fillWithNext 91 = .ok (.goto (-77), 3) := by decide +kernel
theorem dX3_fillWithNext_94 : decode cX3_fillWithNext 94 = .ok (.return_, 1) := by decide +kernel
theorem dX3_onwardCost_0 : decode cX3_onwardCost 0 = .ok (.aload_n 1, 1) := by decide +kernel
theorem dX3_onwardCost_1 : decode cX3_onwardCost 1 = .ok (.getfield 49, 3) := by decide +kernel
theorem dX3_onwardCost_4 : decode cX3_onwardCost 4 = .ok (.iload 4, 2) := by decide +kernel
theorem dX3_onwardCost_6 : decode cX3_onwardCost 6 = .ok (.aaload, 1) := by decide +kernel
theorem dX3_onwardCost_7 : decode cX3_onwardCost 7 = .ok (.astore 5, 2) := by decide +kernel
theorem dX3_onwardCost_9 : decode cX3_onwardCost 9 = .ok (.aload 5, 2) := by decide +kernel
theorem dX3_onwardCost_11 : decode cX3_onwardCost 11 = .ok (.getfield 53, 3) := by decide +kernel
theorem dX3_onwardCost_14 : decode cX3_onwardCost 14 = .ok (.aload_n 0, 1) := by decide +kernel
theorem dX3_onwardCost_15 : decode cX3_onwardCost 15 = .ok (.getfield 32, 3) := by decide +kernel
theorem dX3_onwardCost_18 : decode cX3_onwardCost 18 = .ok (.iload_n 3, 1) := by decide +kernel
theorem dX3_onwardCost_19 : decode cX3_onwardCost 19 = .ok (.iaload, 1) := by decide +kernel
theorem dX3_onwardCost_20 : decode cX3_onwardCost 20 = .ok (.aload_n 0, 1) := by decide +kernel
theorem dX3_onwardCost_21 : decode cX3_onwardCost 21 = .ok (.getfield 32, 3) := by decide +kernel
theorem dX3_onwardCost_24 : decode cX3_onwardCost 24 = .ok (.iload_n 2, 1) := by decide +kernel
theorem dX3_onwardCost_25 : decode cX3_onwardCost 25 = .ok (.iload_n 3, 1) := by decide +kernel
theorem dX3_onwardCost_26 : decode cX3_onwardCost 26 = .ok (.iconst (-1), 1) := by decide +kernel
theorem dX3_onwardCost_27 : decode cX3_onwardCost 27 = .ok (.ixor, 1) := by decide +kernel
theorem dX3_onwardCost_28 : decode cX3_onwardCost 28 = .ok (.iand, 1) := by decide +kernel
theorem dX3_onwardCost_29 : decode cX3_onwardCost 29 = .ok (.iaload, 1) := by decide +kernel
theorem dX3_onwardCost_30 : decode cX3_onwardCost 30 = .ok (.iand, 1) := by decide +kernel
theorem dX3_onwardCost_31 : decode cX3_onwardCost 31 = .ok (.ior, 1) := by decide +kernel
theorem dX3_onwardCost_32 : decode cX3_onwardCost 32 = .ok (.istore 6, 2) := by decide +kernel
theorem dX3_onwardCost_34 : decode cX3_onwardCost 34 = .ok (.aload_n 0, 1) := by decide +kernel
theorem dX3_onwardCost_35 : decode cX3_onwardCost 35 = .ok (.getfield 35, 3) := by decide +kernel
theorem dX3_onwardCost_38 : decode cX3_onwardCost 38 = .ok (.iload_n 3, 1) := by decide +kernel
theorem dX3_onwardCost_39 : decode cX3_onwardCost 39 = .ok (.iconst 1, 1) := by decide +kernel
theorem dX3_onwardCost_40 : decode cX3_onwardCost 40 = .ok (.iload 4, 2) := by decide +kernel
theorem dX3_onwardCost_42 : decode cX3_onwardCost 42 = .ok (.ishl, 1) := by decide +kernel
theorem dX3_onwardCost_43 : decode cX3_onwardCost 43 = .ok (.ior, 1) := by decide +kernel
theorem dX3_onwardCost_44 : decode cX3_onwardCost 44 = .ok (.bipush 8, 2) := by decide +kernel
theorem dX3_onwardCost_46 : decode cX3_onwardCost 46 = .ok (.imul, 1) := by decide +kernel
theorem dX3_onwardCost_47 : decode cX3_onwardCost 47 = .ok (.iload 4, 2) := by decide +kernel
theorem dX3_onwardCost_49 : decode cX3_onwardCost 49 = .ok (.iadd, 1) := by decide +kernel
theorem dX3_onwardCost_50 : decode cX3_onwardCost 50 = .ok (.iaload, 1) := by decide +kernel
theorem dX3_onwardCost_51 : decode cX3_onwardCost 51 = .ok (.istore 7, 2) := by decide +kernel
theorem dX3_onwardCost_53 : decode cX3_onwardCost 53 = .ok (.aload 5, 2) := by decide +kernel
theorem dX3_onwardCost_55 : decode cX3_onwardCost 55 = .ok (.getfield 83, 3) := by decide +kernel
theorem dX3_onwardCost_58 : decode cX3_onwardCost 58 = .ok (.aload_n 0, 1) := by decide +kernel
theorem dX3_onwardCost_59 : decode cX3_onwardCost 59 = .ok (.iload 6, 2) := by decide +kernel
theorem dX3_onwardCost_61 : decode cX3_onwardCost 61 = .ok (.invokevirtual 86, 3) := by decide +kernel
theorem dX3_onwardCost_64 : decode cX3_onwardCost 64 = .ok (.imul, 1) := by decide +kernel
theorem dX3_onwardCost_65 : decode cX3_onwardCost 65 = .ok (.iload 7, 2) := by decide +kernel
theorem dX3_onwardCost_67 : decode cX3_onwardCost 67 = .ok (.iadd, 1) := by decide +kernel
theorem dX3_onwardCost_68 : decode cX3_onwardCost 68 = .ok (.ireturn, 1) := by decide +kernel
theorem dX3_changeCost_0 : decode cX3_changeCost 0 = .ok (.iload_n 2, 1) := by decide +kernel
theorem dX3_changeCost_1 : decode cX3_changeCost 1 = .ok (.ifCond .eq 29, 3) := by decide +kernel
theorem dX3_changeCost_4 : decode cX3_changeCost 4 = .ok (.aload_n 1, 1) := by decide +kernel
theorem dX3_changeCost_5 : decode cX3_changeCost 5 = .ok (.getfield 49, 3) := by decide +kernel
theorem dX3_changeCost_8 : decode cX3_changeCost 8 = .ok (.iload_n 3, 1) := by decide +kernel
theorem dX3_changeCost_9 : decode cX3_changeCost 9 = .ok (.aaload, 1) := by decide +kernel
theorem dX3_changeCost_10 : decode cX3_changeCost 10 = .ok (.getfield 89, 3) := by decide +kernel
theorem dX3_changeCost_13 : decode cX3_changeCost 13 = .ok (.aload_n 1, 1) := by decide +kernel
theorem dX3_changeCost_14 : decode cX3_changeCost 14 = .ok (.getfield 49, 3) := by decide +kernel
theorem dX3_changeCost_17 : decode cX3_changeCost 17 = .ok (.iload 4, 2) := by decide +kernel
theorem dX3_changeCost_19 : decode cX3_changeCost 19 = .ok (.aaload, 1) := by decide +kernel
theorem dX3_changeCost_20 : decode cX3_changeCost 20 = .ok (.getfield 89, 3) := by decide +kernel
theorem dX3_changeCost_23 : decode cX3_changeCost 23 = .ok (.if_icmp .ne 7, 3) := by decide +kernel
theorem dX3_changeCost_26 : decode cX3_changeCost 26 = .ok (.iconst 1, 1) := by decide +kernel
theorem dX3_changeCost_27 : decode cX3_changeCost 27 = .ok (.goto 4, 3) := by decide +kernel
theorem dX3_changeCost_30 : decode cX3_changeCost 30 = .ok (.iconst 0, 1) := by decide +kernel
theorem dX3_changeCost_31 : decode cX3_changeCost 31 = .ok (.istore 5, 2) := by decide +kernel
theorem dX3_changeCost_33 : decode cX3_changeCost 33 = .ok (.iload 5, 2) := by decide +kernel
theorem dX3_changeCost_35 : decode cX3_changeCost 35 = .ok (.ifCond .eq 7, 3) := by decide +kernel
theorem dX3_changeCost_38 : decode cX3_changeCost 38 = .ok (.iconst 0, 1) := by decide +kernel
theorem dX3_changeCost_39 : decode cX3_changeCost 39 = .ok (.goto 7, 3) := by decide +kernel
theorem dX3_changeCost_42 : decode cX3_changeCost 42 = .ok (.aload_n 0, 1) := by decide +kernel
theorem dX3_changeCost_43 : decode cX3_changeCost 43 = .ok (.getfield 19, 3) := by decide +kernel
theorem dX3_changeCost_46 : decode cX3_changeCost 46 = .ok (.ireturn, 1) := by decide +kernel
theorem dX3_walkBest_0 : decode cX3_walkBest 0 = .ok (.iconst 0, 1) := by decide +kernel
theorem dX3_walkBest_1 : decode cX3_walkBest 1 = .ok (.istore_n 3, 1) := by decide +kernel
theorem dX3_walkBest_2 : decode cX3_walkBest 2 = .ok (.iconst 0, 1) := by decide +kernel
theorem dX3_walkBest_3 : decode cX3_walkBest 3 = .ok (.istore 4, 2) := by decide +kernel
theorem dX3_walkBest_5 : decode cX3_walkBest 5 = .ok (.iconst 0, 1) := by decide +kernel
theorem dX3_walkBest_6 : decode cX3_walkBest 6 = .ok (.istore 5, 2) := by decide +kernel
theorem dX3_walkBest_8 : decode cX3_walkBest 8 = .ok (.iload 5, 2) := by decide +kernel
theorem dX3_walkBest_10 : decode cX3_walkBest 10 = .ok (.aload_n 1, 1) := by decide +kernel
theorem dX3_walkBest_11 : decode cX3_walkBest 11 = .ok (.getfield 38, 3) := by decide +kernel
theorem dX3_walkBest_14 : decode cX3_walkBest 14 = .ok (.if_icmp .ge 40, 3) := by decide +kernel
theorem dX3_walkBest_17 : decode cX3_walkBest 17 = .ok (.aload_n 0, 1) := by decide +kernel
theorem dX3_walkBest_18 : decode cX3_walkBest 18 = .ok (.aload_n 1, 1) := by decide +kernel
theorem dX3_walkBest_19 : decode cX3_walkBest 19 = .ok (.iload_n 2, 1) := by decide +kernel
theorem dX3_walkBest_20 : decode cX3_walkBest 20 = .ok (.iload_n 3, 1) := by decide +kernel
theorem dX3_walkBest_21 : decode cX3_walkBest 21 = .ok (.iload 4, 2) := by decide +kernel
theorem dX3_walkBest_23 : decode cX3_walkBest 23 = .ok (.invokevirtual 92, 3) := by decide +kernel
theorem dX3_walkBest_26 : decode cX3_walkBest 26 = .ok (.istore 6, 2) := by decide +kernel
theorem dX3_walkBest_28 : decode cX3_walkBest 28 = .ok (.aload_n 0, 1) := by decide +kernel
theorem dX3_walkBest_29 : decode cX3_walkBest 29 = .ok (.getfield 25, 3) := by decide +kernel
theorem dX3_walkBest_32 : decode cX3_walkBest 32 = .ok (.iload 5, 2) := by decide +kernel
theorem dX3_walkBest_34 : decode cX3_walkBest 34 = .ok (.iload 6, 2) := by decide +kernel
theorem dX3_walkBest_36 : decode cX3_walkBest 36 = .ok (.iastore, 1) := by decide +kernel
theorem dX3_walkBest_37 : decode cX3_walkBest 37 = .ok (.iload_n 3, 1) := by decide +kernel
theorem dX3_walkBest_38 : decode cX3_walkBest 38 = .ok (.iconst 1, 1) := by decide +kernel
theorem dX3_walkBest_39 : decode cX3_walkBest 39 = .ok (.iload 6, 2) := by decide +kernel
theorem dX3_walkBest_41 : decode cX3_walkBest 41 = .ok (.ishl, 1) := by decide +kernel
theorem dX3_walkBest_42 : decode cX3_walkBest 42 = .ok (.ior, 1) := by decide +kernel
theorem dX3_walkBest_43 : decode cX3_walkBest 43 = .ok (.istore_n 3, 1) := by decide +kernel
theorem dX3_walkBest_44 : decode cX3_walkBest 44 = .ok (.iload 6, 2) := by decide +kernel
theorem dX3_walkBest_46 : decode cX3_walkBest 46 = .ok (.istore 4, 2) := by decide +kernel
theorem dX3_walkBest_48 : decode cX3_walkBest 48 = .ok (.iinc 5 1, 3) := by decide +kernel
theorem dX3_walkBest_51 : decode cX3_walkBest 51 = .ok (.goto (-43), 3) := by decide +kernel
theorem dX3_walkBest_54 : decode cX3_walkBest 54 = .ok (.return_, 1) := by decide +kernel
theorem dX3_firstOfBest_0 : decode cX3_firstOfBest 0 = .ok (.aload_n 0, 1) := by decide +kernel
theorem dX3_firstOfBest_1 : decode cX3_firstOfBest 1 = .ok (.getfield 35, 3) := by decide +kernel
theorem dX3_firstOfBest_4 : decode cX3_firstOfBest 4 = .ok (.iload_n 3, 1) := by decide +kernel
theorem dX3_firstOfBest_5 : decode cX3_firstOfBest 5 = .ok (.bipush 8, 2) := by decide +kernel
theorem dX3_firstOfBest_7 : decode cX3_firstOfBest 7 = .ok (.imul, 1) := by decide +kernel
theorem dX3_firstOfBest_8 : decode cX3_firstOfBest 8 = .ok (.iload 4, 2) := by decide +kernel
theorem dX3_firstOfBest_10 : decode cX3_firstOfBest 10 = .ok (.iadd, 1) := by decide +kernel
theorem dX3_firstOfBest_11 : decode cX3_firstOfBest 11 = .ok (.iaload, 1) := by decide +kernel
theorem dX3_firstOfBest_12 : decode cX3_firstOfBest 12 = .ok (.istore 5, 2) := by decide +kernel
theorem dX3_firstOfBest_14 : decode cX3_firstOfBest 14 = .ok (.iconst 0, 1) := by decide +kernel
theorem dX3_firstOfBest_15 : decode cX3_firstOfBest 15 = .ok (.istore 6, 2) := by decide +kernel
theorem dX3_firstOfBest_17 : decode cX3_firstOfBest 17 = .ok (.iload 6, 2) := by decide +kernel
theorem dX3_firstOfBest_19 : decode cX3_firstOfBest 19 = .ok (.aload_n 1, 1) := by decide +kernel
theorem dX3_firstOfBest_20 : decode cX3_firstOfBest 20 = .ok (.getfield 38, 3) := by decide +kernel
theorem dX3_firstOfBest_23 : decode cX3_firstOfBest 23 = .ok (.if_icmp .ge 50, 3) := by decide +kernel
theorem dX3_firstOfBest_26 : decode cX3_firstOfBest 26 = .ok (.iload_n 3, 1) := by decide +kernel
theorem dX3_firstOfBest_27 : decode cX3_firstOfBest 27 = .ok (.iload 6, 2) := by decide +kernel
theorem dX3_firstOfBest_29 : decode cX3_firstOfBest 29 = .ok (.ishr, 1) := by decide +kernel
theorem dX3_firstOfBest_30 : decode cX3_firstOfBest 30 = .ok (.iconst 1, 1) := by decide +kernel
theorem dX3_firstOfBest_31 : decode cX3_firstOfBest 31 = .ok (.iand, 1) := by decide +kernel
theorem dX3_firstOfBest_32 : decode cX3_firstOfBest 32 = .ok (.ifCond .ne 35, 3) := by decide +kernel
theorem dX3_firstOfBest_35 : decode cX3_firstOfBest 35 = .ok (.aload_n 0, 1) := by decide +kernel
theorem dX3_firstOfBest_36 : decode cX3_firstOfBest 36 = .ok (.aload_n 1, 1) := by decide +kernel
theorem dX3_firstOfBest_37 : decode cX3_firstOfBest 37 = .ok (.iload_n 2, 1) := by decide +kernel
theorem dX3_firstOfBest_38 : decode cX3_firstOfBest 38 = .ok (.iload_n 3, 1) := by decide +kernel
theorem dX3_firstOfBest_39 : decode cX3_firstOfBest 39 = .ok (.iload 6, 2) := by decide +kernel
theorem dX3_firstOfBest_41 : decode cX3_firstOfBest 41 = .ok (.invokevirtual 70, 3) := by decide +kernel
theorem dX3_firstOfBest_44 : decode cX3_firstOfBest 44 = .ok (.aload_n 0, 1) := by decide +kernel
theorem dX3_firstOfBest_45 : decode cX3_firstOfBest 45 = .ok (.aload_n 1, 1) := by decide +kernel
theorem dX3_firstOfBest_46 : decode cX3_firstOfBest 46 = .ok (.iload_n 3, 1) := by decide +kernel
theorem dX3_firstOfBest_47 : decode cX3_firstOfBest 47 = .ok (.iload 4, 2) := by decide +kernel
theorem dX3_firstOfBest_49 : decode cX3_firstOfBest 49 = .ok (.iload 6, 2) := by decide +kernel
theorem dX3_firstOfBest_51 : decode cX3_firstOfBest 51 = .ok (.invokevirtual 74, 3) := by decide +kernel
theorem dX3_firstOfBest_54 : decode cX3_firstOfBest 54 = .ok (.iadd, 1) := by decide +kernel
theorem dX3_firstOfBest_55 : decode cX3_firstOfBest 55 = .ok (.istore 7, 2) := by decide +kernel
theorem dX3_firstOfBest_57 : decode cX3_firstOfBest 57 = .ok (.iload 7, 2) := by decide +kernel
theorem dX3_firstOfBest_59 : decode cX3_firstOfBest 59 = .ok (.iload 5, 2) := by decide +kernel
theorem dX3_firstOfBest_61 : decode cX3_firstOfBest 61 = .ok (.if_icmp .ne 6, 3) := by decide +kernel
theorem dX3_firstOfBest_64 : decode cX3_firstOfBest 64 = .ok (.iload 6, 2) := by decide +kernel
theorem dX3_firstOfBest_66 : decode cX3_firstOfBest 66 = .ok (.ireturn, 1) := by decide +kernel
theorem dX3_firstOfBest_67 : decode cX3_firstOfBest 67 = .ok (.iinc 6 1, 3) := by decide +kernel
theorem dX3_firstOfBest_70 : decode cX3_firstOfBest 70 = .ok (.goto (-53), 3) := by decide +kernel
theorem dX3_firstOfBest_73 : decode cX3_firstOfBest 73 = .ok (.iconst 0, 1) := by decide +kernel
theorem dX3_firstOfBest_74 : decode cX3_firstOfBest 74 = .ok (.ireturn, 1) := by decide +kernel
theorem dX3_dayCost_0 : decode cX3_dayCost 0 = .ok (.aload_n 0, 1) := by decide +kernel
theorem dX3_dayCost_1 : decode cX3_dayCost 1 = .ok (.getfield 15, 3) := by decide +kernel
theorem dX3_dayCost_4 : decode cX3_dayCost 4 = .ok (.istore_n 2, 1) := by decide +kernel
theorem dX3_dayCost_5 : decode cX3_dayCost 5 = .ok (.iconst 0, 1) := by decide +kernel
theorem dX3_dayCost_6 : decode cX3_dayCost 6 = .ok (.istore_n 3, 1) := by decide +kernel
theorem dX3_dayCost_7 : decode cX3_dayCost 7 = .ok (.iload_n 3, 1) := by decide +kernel
theorem dX3_dayCost_8 : decode cX3_dayCost 8 = .ok (.bipush 16, 2) := by decide +kernel
theorem dX3_dayCost_10 : decode cX3_dayCost 10 = .ok (.if_icmp .ge 27, 3) := by decide +kernel
theorem dX3_dayCost_13 : decode cX3_dayCost 13 = .ok (.iload_n 1, 1) := by decide +kernel
theorem dX3_dayCost_14 : decode cX3_dayCost 14 = .ok (.iload_n 3, 1) := by decide +kernel
theorem dX3_dayCost_15 : decode cX3_dayCost 15 = .ok (.ishr, 1) := by decide +kernel
theorem dX3_dayCost_16 : decode cX3_dayCost 16 = .ok (.iconst 1, 1) := by decide +kernel
theorem dX3_dayCost_17 : decode cX3_dayCost 17 = .ok (.iand, 1) := by decide +kernel
theorem dX3_dayCost_18 : decode cX3_dayCost 18 = .ok (.iconst 1, 1) := by decide +kernel
theorem dX3_dayCost_19 : decode cX3_dayCost 19 = .ok (.if_icmp .ne 12, 3) := by decide +kernel
theorem dX3_dayCost_22 : decode cX3_dayCost 22 = .ok (.iload_n 2, 1) := by decide +kernel
theorem dX3_dayCost_23 : decode cX3_dayCost 23 = .ok (.aload_n 0, 1) := by decide +kernel
theorem dX3_dayCost_24 : decode cX3_dayCost 24 = .ok (.getfield 9, 3) := by decide +kernel
theorem dX3_dayCost_27 : decode cX3_dayCost 27 = .ok (.iload_n 3, 1) := by decide +kernel
theorem dX3_dayCost_28 : decode cX3_dayCost 28 = .ok (.iaload, 1) := by decide +kernel
theorem dX3_dayCost_29 : decode cX3_dayCost 29 = .ok (.iadd, 1) := by decide +kernel
theorem dX3_dayCost_30 : decode cX3_dayCost 30 = .ok (.istore_n 2, 1) := by decide +kernel
theorem dX3_dayCost_31 : decode cX3_dayCost 31 = .ok (.iinc 3 1, 3) := by decide +kernel
theorem dX3_dayCost_34 : decode cX3_dayCost 34 = .ok (.goto (-27), 3) := by decide +kernel
theorem dX3_dayCost_37 : decode cX3_dayCost 37 = .ok (.iload_n 2, 1) := by decide +kernel
theorem dX3_dayCost_38 : decode cX3_dayCost 38 = .ok (.ireturn, 1) := by decide +kernel
theorem dX3_readOrder_0 : decode cX3_readOrder 0 = .ok (.aload_n 2, 1) := by decide +kernel
theorem dX3_readOrder_1 : decode cX3_readOrder 1 = .ok (.getfield 95, 3) := by decide +kernel
theorem dX3_readOrder_4 : decode cX3_readOrder 4 = .ok (.aload_n 1, 1) := by decide +kernel
theorem dX3_readOrder_5 : decode cX3_readOrder 5 = .ok (.getfield 38, 3) := by decide +kernel
theorem dX3_readOrder_8 : decode cX3_readOrder 8 = .ok (.if_icmp .eq 5, 3) := by decide +kernel
theorem dX3_readOrder_11 : decode cX3_readOrder 11 = .ok (.iconst 0, 1) := by decide +kernel
theorem dX3_readOrder_12 : decode cX3_readOrder 12 = .ok (.ireturn, 1) := by decide +kernel
theorem dX3_readOrder_13 : decode cX3_readOrder 13 = .ok (.iconst 0, 1) := by decide +kernel
theorem dX3_readOrder_14 : decode cX3_readOrder 14 = .ok (.istore_n 3, 1) := by decide +kernel
theorem dX3_readOrder_15 : decode cX3_readOrder 15 = .ok (.iconst 0, 1) := by decide +kernel
theorem dX3_readOrder_16 : decode cX3_readOrder 16 = .ok (.istore 4, 2) := by decide +kernel
theorem dX3_readOrder_18 : decode cX3_readOrder 18 = .ok (.iload 4, 2) := by decide +kernel
theorem dX3_readOrder_20 : decode cX3_readOrder 20 = .ok (.aload_n 1, 1) := by decide +kernel
theorem dX3_readOrder_21 : decode cX3_readOrder 21 = .ok (.getfield 38, 3) := by decide +kernel
theorem dX3_readOrder_24 : decode cX3_readOrder 24 = .ok (.if_icmp .ge 61, 3) := by decide +kernel
theorem dX3_readOrder_27 : decode cX3_readOrder 27 = .ok (.aload_n 2, 1) := by decide +kernel
theorem dX3_readOrder_28 : decode cX3_readOrder 28 = .ok (.getfield 100, 3) := by decide +kernel
theorem dX3_readOrder_31 : decode cX3_readOrder 31 = .ok (.iload 4, 2) := by decide +kernel
theorem dX3_readOrder_33 : decode cX3_readOrder 33 = .ok (.laload, 1) := by decide +kernel
theorem dX3_readOrder_34 : decode cX3_readOrder 34 = .ok (.l2i, 1) := by decide +kernel
theorem dX3_readOrder_35 : decode cX3_readOrder 35 = .ok (.istore 5, 2) := by decide +kernel
theorem dX3_readOrder_37 : decode cX3_readOrder 37 = .ok (.iload 5, 2) := by decide +kernel
theorem dX3_readOrder_39 : decode cX3_readOrder 39 = .ok (.ifCond .lt 22, 3) := by decide +kernel
theorem dX3_readOrder_42 : decode cX3_readOrder 42 = .ok (.iload 5, 2) := by decide +kernel
theorem dX3_readOrder_44 : decode cX3_readOrder 44 = .ok (.aload_n 1, 1) := by decide +kernel
theorem dX3_readOrder_45 : decode cX3_readOrder 45 = .ok (.getfield 38, 3) := by decide +kernel
theorem dX3_readOrder_48 : decode cX3_readOrder 48 = .ok (.if_icmp .ge 13, 3) := by decide +kernel
theorem dX3_readOrder_51 : decode cX3_readOrder 51 = .ok (.iload_n 3, 1) := by decide +kernel
theorem dX3_readOrder_52 : decode cX3_readOrder 52 = .ok (.iload 5, 2) := by decide +kernel
theorem dX3_readOrder_54 : decode cX3_readOrder 54 = .ok (.ishr, 1) := by decide +kernel
theorem dX3_readOrder_55 : decode cX3_readOrder 55 = .ok (.iconst 1, 1) := by decide +kernel
theorem dX3_readOrder_56 : decode cX3_readOrder 56 = .ok (.iand, 1) := by decide +kernel
theorem dX3_readOrder_57 : decode cX3_readOrder 57 = .ok (.iconst 1, 1) := by decide +kernel
theorem dX3_readOrder_58 : decode cX3_readOrder 58 = .ok (.if_icmp .ne 5, 3) := by decide +kernel
theorem dX3_readOrder_61 : decode cX3_readOrder 61 = .ok (.iconst 0, 1) := by decide +kernel
theorem dX3_readOrder_62 : decode cX3_readOrder 62 = .ok (.ireturn, 1) := by decide +kernel
theorem dX3_readOrder_63 : decode cX3_readOrder 63 = .ok (.iload_n 3, 1) := by decide +kernel
theorem dX3_readOrder_64 : decode cX3_readOrder 64 = .ok (.iconst 1, 1) := by decide +kernel
theorem dX3_readOrder_65 : decode cX3_readOrder 65 = .ok (.iload 5, 2) := by decide +kernel
theorem dX3_readOrder_67 : decode cX3_readOrder 67 = .ok (.ishl, 1) := by decide +kernel
theorem dX3_readOrder_68 : decode cX3_readOrder 68 = .ok (.ior, 1) := by decide +kernel
theorem dX3_readOrder_69 : decode cX3_readOrder 69 = .ok (.istore_n 3, 1) := by decide +kernel
theorem dX3_readOrder_70 : decode cX3_readOrder 70 = .ok (.aload_n 0, 1) := by decide +kernel
theorem dX3_readOrder_71 : decode cX3_readOrder 71 = .ok (.getfield 22, 3) := by decide +kernel
theorem dX3_readOrder_74 : decode cX3_readOrder 74 = .ok (.iload 4, 2) := by decide +kernel
theorem dX3_readOrder_76 : decode cX3_readOrder 76 = .ok (.iload 5, 2) := by decide +kernel
theorem dX3_readOrder_78 : decode cX3_readOrder 78 = .ok (.iastore, 1) := by decide +kernel
theorem dX3_readOrder_79 : decode cX3_readOrder 79 = .ok (.iinc 4 1, 3) := by decide +kernel
theorem dX3_readOrder_82 : decode cX3_readOrder 82 = .ok (.goto (-64), 3) := by decide +kernel
theorem dX3_readOrder_85 : decode cX3_readOrder 85 = .ok (.iconst 1, 1) := by decide +kernel
theorem dX3_readOrder_86 : decode cX3_readOrder 86 = .ok (.ireturn, 1) := by decide +kernel
theorem dX3_costOf_0 : decode cX3_costOf 0 = .ok (.iconst 0, 1) := by decide +kernel
theorem dX3_costOf_1 : decode cX3_costOf 1 = .ok (.istore_n 2, 1) := by decide +kernel
theorem dX3_costOf_2 : decode cX3_costOf 2 = .ok (.iconst 0, 1) := by decide +kernel
theorem dX3_costOf_3 : decode cX3_costOf 3 = .ok (.istore_n 3, 1) := by decide +kernel
theorem dX3_costOf_4 : decode cX3_costOf 4 = .ok (.iload_n 3, 1) := by decide +kernel
theorem dX3_costOf_5 : decode cX3_costOf 5 = .ok (.aload_n 1, 1) := by decide +kernel
theorem dX3_costOf_6 : decode cX3_costOf 6 = .ok (.getfield 38, 3) := by decide +kernel
theorem dX3_costOf_9 : decode cX3_costOf 9 = .ok (.if_icmp .ge 76, 3) := by decide +kernel
theorem dX3_costOf_12 : decode cX3_costOf 12 = .ok (.aload_n 1, 1) := by decide +kernel
theorem dX3_costOf_13 : decode cX3_costOf 13 = .ok (.getfield 49, 3) := by decide +kernel
theorem dX3_costOf_16 : decode cX3_costOf 16 = .ok (.aload_n 0, 1) := by decide +kernel
theorem dX3_costOf_17 : decode cX3_costOf 17 = .ok (.getfield 22, 3) := by decide +kernel
theorem dX3_costOf_20 : decode cX3_costOf 20 = .ok (.iload_n 3, 1) := by decide +kernel
theorem dX3_costOf_21 : decode cX3_costOf 21 = .ok (.iaload, 1) := by decide +kernel
theorem dX3_costOf_22 : decode cX3_costOf 22 = .ok (.aaload, 1) := by decide +kernel
theorem dX3_costOf_23 : decode cX3_costOf 23 = .ok (.astore 4, 2) := by decide +kernel
theorem dX3_costOf_25 : decode cX3_costOf 25 = .ok (.iload_n 3, 1) := by decide +kernel
theorem dX3_costOf_26 : decode cX3_costOf 26 = .ok (.ifCond .eq 27, 3) := by decide +kernel
theorem dX3_costOf_29 : decode cX3_costOf 29 = .ok (.aload_n 1, 1) := by decide +kernel
theorem dX3_costOf_30 : decode cX3_costOf 30 = .ok (.getfield 49, 3) := by decide +kernel
theorem dX3_costOf_33 : decode cX3_costOf 33 = .ok (.aload_n 0, 1) := by decide +kernel
theorem dX3_costOf_34 : decode cX3_costOf 34 = .ok (.getfield 22, 3) := by decide +kernel
theorem dX3_costOf_37 : decode cX3_costOf 37 = .ok (.iload_n 3, 1) := by decide +kernel
theorem dX3_costOf_38 : decode cX3_costOf 38 = .ok (.iconst 1, 1) := by decide +kernel
theorem dX3_costOf_39 : decode cX3_costOf 39 = .ok (.isub, 1) := by decide +kernel
theorem dX3_costOf_40 : decode cX3_costOf 40 = .ok (.iaload, 1) := by decide +kernel
theorem dX3_costOf_41 : decode cX3_costOf 41 = .ok (.aaload, 1) := by decide +kernel
theorem dX3_costOf_42 : decode cX3_costOf 42 = .ok (.getfield 89, 3) := by decide +kernel
theorem dX3_costOf_45 : decode cX3_costOf 45 = .ok (.aload 4, 2) := by decide +kernel
theorem dX3_costOf_47 : decode cX3_costOf 47 = .ok (.getfield 89, 3) := by decide +kernel
theorem dX3_costOf_50 : decode cX3_costOf 50 = .ok (.if_icmp .eq 10, 3) := by decide +kernel
theorem dX3_costOf_53 : decode cX3_costOf 53 = .ok (.iload_n 2, 1) := by decide +kernel
theorem dX3_costOf_54 : decode cX3_costOf 54 = .ok (.aload_n 0, 1) := by decide +kernel
theorem dX3_costOf_55 : decode cX3_costOf 55 = .ok (.getfield 19, 3) := by decide +kernel
theorem dX3_costOf_58 : decode cX3_costOf 58 = .ok (.iadd, 1) := by decide +kernel
theorem dX3_costOf_59 : decode cX3_costOf 59 = .ok (.istore_n 2, 1) := by decide +kernel
theorem dX3_costOf_60 : decode cX3_costOf 60 = .ok (.iload_n 2, 1) := by decide +kernel
theorem dX3_costOf_61 : decode cX3_costOf 61 = .ok (.aload 4, 2) := by decide +kernel
theorem dX3_costOf_63 : decode cX3_costOf 63 = .ok (.getfield 83, 3) := by decide +kernel
theorem dX3_costOf_66 : decode cX3_costOf 66 = .ok (.aload_n 0, 1) := by decide +kernel
theorem dX3_costOf_67 : decode cX3_costOf 67 = .ok (.aload_n 0, 1) := by decide +kernel
theorem dX3_costOf_68 : decode cX3_costOf 68 = .ok (.aload_n 1, 1) := by decide +kernel
theorem dX3_costOf_69 : decode cX3_costOf 69 = .ok (.iload_n 3, 1) := by decide +kernel
theorem dX3_costOf_70 : decode cX3_costOf 70 = .ok (.invokevirtual 104, 3) := by decide +kernel
theorem dX3_costOf_73 : decode cX3_costOf 73 = .ok (.invokevirtual 86, 3) := by decide +kernel
theorem dX3_costOf_76 : decode cX3_costOf 76 = .ok (.imul, 1) := by decide +kernel
theorem dX3_costOf_77 : decode cX3_costOf 77 = .ok (.iadd, 1) := by decide +kernel
theorem dX3_costOf_78 : decode cX3_costOf 78 = .ok (.istore_n 2, 1) := by decide +kernel
theorem dX3_costOf_79 : decode cX3_costOf 79 = .ok (.iinc 3 1, 3) := by decide +kernel
theorem dX3_costOf_82 : decode cX3_costOf 82 = .ok (.goto (-78), 3) := by decide +kernel
theorem dX3_costOf_85 : decode cX3_costOf 85 = .ok (.iload_n 2, 1) := by decide +kernel
theorem dX3_costOf_86 : decode cX3_costOf 86 = .ok (.ireturn, 1) := by decide +kernel
theorem dX3_peopleThere_0 : decode cX3_peopleThere 0 = .ok (.iconst 0, 1) := by decide +kernel
theorem dX3_peopleThere_1 : decode cX3_peopleThere 1 = .ok (.istore_n 3, 1) := by decide +kernel
theorem dX3_peopleThere_2 : decode cX3_peopleThere 2 = .ok (.iconst 0, 1) := by decide +kernel
theorem dX3_peopleThere_3 : decode cX3_peopleThere 3 = .ok (.istore 4, 2) := by decide +kernel
theorem dX3_peopleThere_5 : decode cX3_peopleThere 5 = .ok (.iconst 0, 1) := by decide +kernel
theorem dX3_peopleThere_6 : decode cX3_peopleThere 6 = .ok (.istore 5, 2) := by decide +kernel
theorem dX3_peopleThere_8 : decode cX3_peopleThere 8 = .ok (.iload 5, 2) := by decide +kernel
theorem dX3_peopleThere_10 : decode cX3_peopleThere 10 = .ok (.aload_n 1, 1) := by decide +kernel
theorem dX3_peopleThere_11 : decode cX3_peopleThere 11 = .ok (.getfield 38, 3) := by decide +kernel
theorem dX3_peopleThere_14 : decode cX3_peopleThere 14 = .ok (.if_icmp .ge 50, 3) := by decide +kernel
theorem dX3_peopleThere_17 : decode cX3_peopleThere 17 = .ok (.aload_n 1, 1) := by decide +kernel
theorem dX3_peopleThere_18 : decode cX3_peopleThere 18 = .ok (.getfield 49, 3) := by decide +kernel
theorem dX3_peopleThere_21 : decode cX3_peopleThere 21 = .ok (.aload_n 0, 1) := by decide +kernel
theorem dX3_peopleThere_22 : decode cX3_peopleThere 22 = .ok (.getfield 22, 3) := by decide +kernel
theorem dX3_peopleThere_25 : decode cX3_peopleThere 25 = .ok (.iload 5, 2) := by decide +kernel
theorem dX3_peopleThere_27 : decode cX3_peopleThere 27 = .ok (.iaload, 1) := by decide +kernel
theorem dX3_peopleThere_28 : decode cX3_peopleThere 28 = .ok (.aaload, 1) := by decide +kernel
theorem dX3_peopleThere_29 : decode cX3_peopleThere 29 = .ok (.getfield 53, 3) := by decide +kernel
theorem dX3_peopleThere_32 : decode cX3_peopleThere 32 = .ok (.istore 6, 2) := by decide +kernel
theorem dX3_peopleThere_34 : decode cX3_peopleThere 34 = .ok (.iload 5, 2) := by decide +kernel
theorem dX3_peopleThere_36 : decode cX3_peopleThere 36 = .ok (.iload_n 2, 1) := by decide +kernel
theorem dX3_peopleThere_37 : decode cX3_peopleThere 37 = .ok (.if_icmp .gt 8, 3) := by decide +kernel
theorem dX3_peopleThere_40 : decode cX3_peopleThere 40 = .ok (.iload_n 3, 1) := by decide +kernel
theorem dX3_peopleThere_41 : decode cX3_peopleThere 41 = .ok (.iload 6, 2) := by decide +kernel
theorem dX3_peopleThere_43 : decode cX3_peopleThere 43 = .ok (.ior, 1) := by decide +kernel
theorem dX3_peopleThere_44 : decode cX3_peopleThere 44 = .ok (.istore_n 3, 1) := by decide +kernel
theorem dX3_peopleThere_45 : decode cX3_peopleThere 45 = .ok (.iload 5, 2) := by decide +kernel
theorem dX3_peopleThere_47 : decode cX3_peopleThere 47 = .ok (.iload_n 2, 1) := by decide +kernel
theorem dX3_peopleThere_48 : decode cX3_peopleThere 48 = .ok (.if_icmp .lt 10, 3) := by decide +kernel
theorem dX3_peopleThere_51 : decode cX3_peopleThere 51 = .ok (.iload 4, 2) := by decide +kernel
theorem dX3_peopleThere_53 : decode cX3_peopleThere 53 = .ok (.iload 6, 2) := by decide +kernel
theorem dX3_peopleThere_55 : decode cX3_peopleThere 55 = .ok (.ior, 1) := by decide +kernel
theorem dX3_peopleThere_56 : decode cX3_peopleThere 56 = .ok (.istore 4, 2) := by decide +kernel
theorem dX3_peopleThere_58 : decode cX3_peopleThere 58 = .ok (.iinc 5 1, 3) := by decide +kernel
theorem dX3_peopleThere_61 : decode cX3_peopleThere 61 = .ok (.goto (-53), 3) := by decide +kernel
theorem dX3_peopleThere_64 : decode cX3_peopleThere 64 = .ok (.iload_n 3, 1) := by decide +kernel
theorem dX3_peopleThere_65 : decode cX3_peopleThere 65 = .ok (.iload 4, 2) := by decide +kernel
theorem dX3_peopleThere_67 : decode cX3_peopleThere 67 = .ok (.iand, 1) := by decide +kernel
theorem dX3_peopleThere_68 : decode cX3_peopleThere 68 = .ok (.ireturn, 1) := by decide +kernel
theorem dX3_boundOf_0 : decode cX3_boundOf 0 = .ok (.iconst 0, 1) := by decide +kernel
theorem dX3_boundOf_1 : decode cX3_boundOf 1 = .ok (.istore_n 2, 1) := by decide +kernel
theorem dX3_boundOf_2 : decode cX3_boundOf 2 = .ok (.iconst 0, 1) := by decide +kernel
theorem dX3_boundOf_3 : decode cX3_boundOf 3 = .ok (.istore_n 3, 1) := by decide +kernel
theorem dX3_boundOf_4 : decode cX3_boundOf 4 = .ok (.iconst 0, 1) := by decide +kernel
theorem dX3_boundOf_5 : decode cX3_boundOf 5 = .ok (.istore 4, 2) := by decide +kernel
theorem dX3_boundOf_7 : decode cX3_boundOf 7 = .ok (.iload 4, 2) := by decide +kernel
theorem dX3_boundOf_9 : decode cX3_boundOf 9 = .ok (.aload_n 1, 1) := by decide +kernel
theorem dX3_boundOf_10 : decode cX3_boundOf 10 = .ok (.getfield 38, 3) := by decide +kernel
theorem dX3_boundOf_13 : decode cX3_boundOf 13 = .ok (.if_icmp .ge 46, 3) := by decide +kernel
theorem dX3_boundOf_16 : decode cX3_boundOf 16 = .ok (.aload_n 1, 1) := by decide +kernel
theorem dX3_boundOf_17 : decode cX3_boundOf 17 = .ok (.getfield 49, 3) := by decide +kernel
theorem dX3_boundOf_20 : decode cX3_boundOf 20 = .ok (.iload 4, 2) := by decide +kernel
theorem dX3_boundOf_22 : decode cX3_boundOf 22 = .ok (.aaload, 1) := by decide +kernel
theorem dX3_boundOf_23 : decode cX3_boundOf 23 = .ok (.astore 5, 2) := by decide +kernel
theorem dX3_boundOf_25 : decode cX3_boundOf 25 = .ok (.iload_n 2, 1) := by decide +kernel
theorem dX3_boundOf_26 : decode cX3_boundOf 26 = .ok (.aload 5, 2) := by decide +kernel
theorem dX3_boundOf_28 : decode cX3_boundOf 28 = .ok (.getfield 83, 3) := by decide +kernel
theorem dX3_boundOf_31 : decode cX3_boundOf 31 = .ok (.aload_n 0, 1) := by decide +kernel
theorem dX3_boundOf_32 : decode cX3_boundOf 32 = .ok (.aload 5, 2) := by decide +kernel
theorem dX3_boundOf_34 : decode cX3_boundOf 34 = .ok (.getfield 53, 3) := by decide +kernel
theorem dX3_boundOf_37 : decode cX3_boundOf 37 = .ok (.invokevirtual 86, 3) := by decide +kernel
theorem dX3_boundOf_40 : decode cX3_boundOf 40 = .ok (.imul, 1) := by decide +kernel
theorem dX3_boundOf_41 : decode cX3_boundOf 41 = .ok (.iadd, 1) := by decide +kernel
theorem dX3_boundOf_42 : decode cX3_boundOf 42 = .ok (.istore_n 2, 1) := by decide +kernel
theorem dX3_boundOf_43 : decode cX3_boundOf 43 = .ok (.iload_n 3, 1) := by decide +kernel
theorem dX3_boundOf_44 : decode cX3_boundOf 44 = .ok (.iconst 1, 1) := by decide +kernel
theorem dX3_boundOf_45 : decode cX3_boundOf 45 = .ok (.aload 5, 2) := by decide +kernel
theorem dX3_boundOf_47 : decode cX3_boundOf 47 = .ok (.getfield 89, 3) := by decide +kernel
theorem dX3_boundOf_50 : decode cX3_boundOf 50 = .ok (.ishl, 1) := by decide +kernel
theorem dX3_boundOf_51 : decode cX3_boundOf 51 = .ok (.ior, 1) := by decide +kernel
theorem dX3_boundOf_52 : decode cX3_boundOf 52 = .ok (.istore_n 3, 1) := by decide +kernel
theorem dX3_boundOf_53 : decode cX3_boundOf 53 = .ok (.iinc 4 1, 3) := by decide +kernel
theorem dX3_boundOf_56 : decode cX3_boundOf 56 = .ok (.goto (-49), 3) := by decide +kernel
theorem dX3_boundOf_59 : decode cX3_boundOf 59 = .ok (.iload_n 2, 1) := by decide +kernel
theorem dX3_boundOf_60 : decode cX3_boundOf 60 = .ok (.aload_n 0, 1) := by decide +kernel
theorem dX3_boundOf_61 : decode cX3_boundOf 61 = .ok (.getfield 19, 3) := by decide +kernel
theorem dX3_boundOf_64 : decode cX3_boundOf 64 = .ok (.iload_n 3, 1) := by decide +kernel
theorem dX3_boundOf_65 : decode cX3_boundOf 65 = .ok (.invokestatic 108, 3) := by decide +kernel
theorem dX3_boundOf_68 : decode cX3_boundOf 68 = .ok (.imul, 1) := by decide +kernel
theorem dX3_boundOf_69 : decode cX3_boundOf 69 = .ok (.iadd, 1) := by decide +kernel
theorem dX3_boundOf_70 : decode cX3_boundOf 70 = .ok (.ireturn, 1) := by decide +kernel
theorem dX4_init_0 : decode cX4_init 0 = .ok (.aload_n 0, 1) := by decide +kernel
theorem dX4_init_1 : decode cX4_init 1 = .ok (.invokespecial 3, 3) := by decide +kernel
theorem dX4_init_4 : decode cX4_init 4 = .ok (.aload_n 0, 1) := by decide +kernel
theorem dX4_init_5 : decode cX4_init 5 = .ok (.bipush 6, 2) := by decide +kernel
theorem dX4_init_7 : decode cX4_init 7 = .ok (.newarray .int, 2) := by decide +kernel
theorem dX4_init_9 : decode cX4_init 9 = .ok (.putfield 9, 3) := by decide +kernel
theorem dX4_init_12 : decode cX4_init 12 = .ok (.aload_n 0, 1) := by decide +kernel
theorem dX4_init_13 : decode cX4_init 13 = .ok (.bipush 60, 2) := by decide +kernel
theorem dX4_init_15 : decode cX4_init 15 = .ok (.newarray .long, 2) := by decide +kernel
theorem dX4_init_17 : decode cX4_init 17 = .ok (.putfield 15, 3) := by decide +kernel
theorem dX4_init_20 : decode cX4_init 20 = .ok (.aload_n 0, 1) := by decide +kernel
theorem dX4_init_21 : decode cX4_init 21 = .ok (.iconst 0, 1) := by decide +kernel
theorem dX4_init_22 : decode cX4_init 22 = .ok (.putfield 19, 3) := by decide +kernel
theorem dX4_init_25 : decode cX4_init 25 = .ok (.aload_n 0, 1) := by decide +kernel
theorem dX4_init_26 : decode cX4_init 26 = .ok (.iconst 0, 1) := by decide +kernel
theorem dX4_init_27 : decode cX4_init 27 = .ok (.putfield 23, 3) := by decide +kernel
theorem dX4_init_30 : decode cX4_init 30 = .ok (.aload_n 0, 1) := by decide +kernel
theorem dX4_init_31 : decode cX4_init 31 = .ok (.iconst (-1), 1) := by decide +kernel
theorem dX4_init_32 : decode cX4_init 32 = .ok (.putfield 26, 3) := by decide +kernel
theorem dX4_init_35 : decode cX4_init 35 = .ok (.aload_n 0, 1) := by decide +kernel
theorem dX4_init_36 : decode cX4_init 36 = .ok (.iconst 0, 1) := by decide +kernel
theorem dX4_init_37 : decode cX4_init 37 = .ok (.putfield 29, 3) := by decide +kernel
theorem dX4_init_40 : decode cX4_init 40 = .ok (.aload_n 0, 1) := by decide +kernel
theorem dX4_init_41 : decode cX4_init 41 = .ok (.iconst (-1), 1) := by decide +kernel
theorem dX4_init_42 : decode cX4_init 42 = .ok (.putfield 33, 3) := by decide +kernel
theorem dX4_init_45 : decode cX4_init 45 = .ok (.aload_n 0, 1) := by decide +kernel
theorem dX4_init_46 : decode cX4_init 46 = .ok (.iconst 0, 1) := by decide +kernel
theorem dX4_init_47 : decode cX4_init 47 = .ok (.putfield 36, 3) := by decide +kernel
theorem dX4_init_50 : decode cX4_init 50 = .ok (.aload_n 0, 1) := by decide +kernel
theorem dX4_init_51 : decode cX4_init 51 = .ok (.iconst 0, 1) := by decide +kernel
theorem dX4_init_52 : decode cX4_init 52 = .ok (.putfield 39, 3) := by decide +kernel
theorem dX4_init_55 : decode cX4_init 55 = .ok (.aload_n 0, 1) := by decide +kernel
theorem dX4_init_56 : decode cX4_init 56 = .ok (.iconst 0, 1) := by decide +kernel
theorem dX4_init_57 : decode cX4_init 57 = .ok (.putfield 42, 3) := by decide +kernel
theorem dX4_init_60 : decode cX4_init 60 = .ok (.aload_n 0, 1) := by decide +kernel
theorem dX4_init_61 : decode cX4_init 61 = .ok (.iconst 0, 1) := by decide +kernel
theorem dX4_init_62 : decode cX4_init 62 = .ok (.putfield 45, 3) := by decide +kernel
theorem dX4_init_65 : decode cX4_init 65 = .ok (.aload_n 0, 1) := by decide +kernel
theorem dX4_init_66 : decode cX4_init 66 = .ok (.iconst 0, 1) := by decide +kernel
theorem dX4_init_67 : decode cX4_init 67 = .ok (.putfield 48, 3) := by decide +kernel
theorem dX4_init_70 : decode cX4_init 70 = .ok (.aload_n 0, 1) := by decide +kernel
theorem dX4_init_71 : decode cX4_init 71 = .ok (.iconst 0, 1) := by decide +kernel
theorem dX4_init_72 : decode cX4_init 72 = .ok (.putfield 51, 3) := by decide +kernel
theorem dX4_init_75 : decode cX4_init 75 = .ok (.aload_n 0, 1) := by decide +kernel
theorem dX4_init_76 : decode cX4_init 76 = .ok (.iload_n 1, 1) := by decide +kernel
theorem dX4_init_77 : decode cX4_init 77 = .ok (.putfield 54, 3) := by decide +kernel
theorem dX4_init_80 : decode cX4_init 80 = .ok (.return_, 1) := by decide +kernel
theorem dX4_beginTerm_0 : decode cX4_beginTerm 0 = .ok (.iconst 0, 1) := by decide +kernel
theorem dX4_beginTerm_1 : decode cX4_beginTerm 1 = .ok (.istore_n 3, 1) := by decide +kernel
theorem dX4_beginTerm_2 : decode cX4_beginTerm 2 = .ok (.iload_n 3, 1) := by decide +kernel
theorem dX4_beginTerm_3 : decode cX4_beginTerm 3 = .ok (.bipush 6, 2) := by decide +kernel
theorem dX4_beginTerm_5 : decode cX4_beginTerm 5 = .ok (.if_icmp .ge 39, 3) := by decide +kernel
theorem dX4_beginTerm_8 : decode cX4_beginTerm 8 = .ok (.iload_n 3, 1) := by decide +kernel
theorem dX4_beginTerm_9 : decode cX4_beginTerm 9 = .ok (.aload_n 1, 1) := by decide +kernel
theorem dX4_beginTerm_10 : decode cX4_beginTerm 10 = .ok (.arraylength, 1) := by decide +kernel
theorem dX4_beginTerm_11 : decode cX4_beginTerm 11 = .ok (.if_icmp .ge 33, 3) := by decide +kernel
theorem dX4_beginTerm_14 : decode cX4_beginTerm 14 = .ok (.aload_n 0, 1) := by decide +kernel
theorem dX4_beginTerm_15 : decode cX4_beginTerm 15 = .ok (.getfield 9, 3) := by decide +kernel
theorem dX4_beginTerm_18 : decode cX4_beginTerm 18 = .ok (.iload_n 3, 1) := by decide +kernel
theorem dX4_beginTerm_19 : decode cX4_beginTerm 19 = .ok (.aload_n 1, 1) := by decide +kernel
theorem dX4_beginTerm_20 : decode cX4_beginTerm 20 = .ok (.iload_n 3, 1) := by decide +kernel
theorem dX4_beginTerm_21 : decode cX4_beginTerm 21 = .ok (.iaload, 1) := by decide +kernel
theorem dX4_beginTerm_22 : decode cX4_beginTerm 22 = .ok (.iconst (-1), 1) := by decide +kernel
theorem dX4_beginTerm_23 : decode cX4_beginTerm 23 = .ok (.if_icmp .ne 11, 3) := by decide +kernel
theorem dX4_beginTerm_26 : decode cX4_beginTerm 26 = .ok (.getstatic 57, 3) := by decide +kernel
theorem dX4_beginTerm_29 : decode cX4_beginTerm 29 = .ok (.iload_n 3, 1) := by decide +kernel
theorem dX4_beginTerm_30 : decode cX4_beginTerm 30 = .ok (.iaload, 1) := by decide +kernel
theorem dX4_beginTerm_31 : decode cX4_beginTerm 31 = .ok (.goto 6, 3) := by decide +kernel
theorem dX4_beginTerm_34 : decode cX4_beginTerm 34 = .ok (.aload_n 1, 1) := by decide +kernel
theorem dX4_beginTerm_35 : decode cX4_beginTerm 35 = .ok (.iload_n 3, 1) := by decide +kernel
theorem dX4_beginTerm_36 : decode cX4_beginTerm 36 = .ok (.iaload, 1) := by decide +kernel
theorem dX4_beginTerm_37 : decode cX4_beginTerm 37 = .ok (.iastore, 1) := by decide +kernel
theorem dX4_beginTerm_38 : decode cX4_beginTerm 38 = .ok (.iinc 3 1, 3) := by decide +kernel
theorem dX4_beginTerm_41 : decode cX4_beginTerm 41 = .ok (.goto (-39), 3) := by decide +kernel
theorem dX4_beginTerm_44 : decode cX4_beginTerm 44 = .ok (.aload_n 0, 1) := by decide +kernel
theorem dX4_beginTerm_45 : decode cX4_beginTerm 45 = .ok (.iload_n 2, 1) := by decide +kernel
theorem dX4_beginTerm_46 : decode cX4_beginTerm 46 = .ok (.putfield 23, 3) := by decide +kernel
theorem dX4_beginTerm_49 : decode cX4_beginTerm 49 = .ok (.aload_n 0, 1) := by decide +kernel
theorem dX4_beginTerm_50 : decode cX4_beginTerm 50 = .ok (.iload_n 2, 1) := by decide +kernel
theorem dX4_beginTerm_51 : decode cX4_beginTerm 51 = .ok (.sipush 364, 3) := by decide +kernel
theorem dX4_beginTerm_54 : decode cX4_beginTerm 54 = .ok (.aload_n 0, 1) := by decide +kernel
theorem dX4_beginTerm_55 : decode cX4_beginTerm 55 = .ok (.getfield 9, 3) := by decide +kernel
theorem dX4_beginTerm_58 : decode cX4_beginTerm 58 = .ok (.iconst 5, 1) := by decide +kernel
theorem dX4_beginTerm_59 : decode cX4_beginTerm 59 = .ok (.iaload, 1) := by decide +kernel
theorem dX4_beginTerm_60 : decode cX4_beginTerm 60 = .ok (.imul, 1) := by decide +kernel
theorem dX4_beginTerm_61 : decode cX4_beginTerm 61 = .ok (.iadd, 1) := by decide +kernel
theorem dX4_beginTerm_62 : decode cX4_beginTerm 62 = .ok (.putfield 26, 3) := by decide +kernel
theorem dX4_beginTerm_65 : decode cX4_beginTerm 65 = .ok (.aload_n 0, 1) := by decide +kernel
theorem dX4_beginTerm_66 : decode cX4_beginTerm 66 = .ok (.iconst 0, 1) := by decide +kernel
theorem dX4_beginTerm_67 : decode cX4_beginTerm 67 = .ok (.putfield 39, 3) := by decide +kernel
theorem dX4_beginTerm_70 : decode cX4_beginTerm 70 = .ok (.aload_n 0, 1) := by decide +kernel
theorem dX4_beginTerm_71 : decode cX4_beginTerm 71 = .ok (.iconst 0, 1) := by decide +kernel
theorem dX4_beginTerm_72 : decode cX4_beginTerm 72 = .ok (.putfield 42, 3) := by decide +kernel
theorem dX4_beginTerm_75 : decode cX4_beginTerm 75 = .ok (.aload_n 0, 1) := by decide +kernel
theorem dX4_beginTerm_76 : decode cX4_beginTerm 76 = .ok (.iconst 0, 1) := by decide +kernel
theorem dX4_beginTerm_77 : decode cX4_beginTerm 77 = .ok (.putfield 45, 3) := by decide +kernel
theorem dX4_beginTerm_80 : decode cX4_beginTerm 80 = .ok (.aload_n 0, 1) := by decide +kernel
theorem dX4_beginTerm_81 : decode cX4_beginTerm 81 = .ok (.iconst 0, 1) := by decide +kernel
theorem dX4_beginTerm_82 : decode cX4_beginTerm 82 = .ok (.putfield 48, 3) := by decide +kernel
theorem dX4_beginTerm_85 : decode cX4_beginTerm 85 = .ok (.return_, 1) := by decide +kernel
theorem dX4_countOf_0 : decode cX4_countOf 0 = .ok (.aload_n 3, 1) := by decide +kernel
theorem dX4_countOf_1 : decode cX4_countOf 1 = .ok (.iload_n 1, 1) := by decide +kernel
theorem dX4_countOf_2 : decode cX4_countOf 2 = .ok (.iload_n 2, 1) := by decide +kernel
theorem dX4_countOf_3 : decode cX4_countOf 3 = .ok (.invokevirtual 60, 3) := by decide +kernel
theorem dX4_countOf_6 : decode cX4_countOf 6 = .ok (.ifCond .eq 11, 3) := by decide +kernel
theorem dX4_countOf_9 : decode cX4_countOf 9 = .ok (.getstatic 57, 3) := by decide +kernel
theorem dX4_countOf_12 : decode cX4_countOf 12 = .ok (.iload_n 1, 1) := by decide +kernel
theorem dX4_countOf_13 : decode cX4_countOf 13 = .ok (.iaload, 1) := by decide +kernel
theorem dX4_countOf_14 : decode cX4_countOf 14 = .ok (.goto 9, 3) := by decide +kernel
theorem dX4_countOf_17 : decode cX4_countOf 17 = .ok (.aload_n 0, 1) := by decide +kernel
theorem dX4_countOf_18 : decode cX4_countOf 18 = .ok (.getfield 9, 3) := by decide +kernel
theorem dX4_countOf_21 : decode cX4_countOf 21 = .ok (.iload_n 1, 1) := by decide +kernel
theorem dX4_countOf_22 : decode cX4_countOf 22 = .ok (.iaload, 1) := by decide +kernel
theorem dX4_countOf_23 : decode cX4_countOf 23 = .ok (.ireturn, 1) := by decide +kernel
theorem dX4_isUnder_0 : decode cX4_isUnder 0 = .ok (.aload_n 0, 1) := by decide +kernel
theorem dX4_isUnder_1 : decode cX4_isUnder 1 = .ok (.getfield 26, 3) := by decide +kernel
theorem dX4_isUnder_4 : decode cX4_isUnder 4 = .ok (.iconst (-1), 1) := by decide +kernel
theorem dX4_isUnder_5 : decode cX4_isUnder 5 = .ok (.if_icmp .eq 23, 3) := by decide +kernel
theorem dX4_isUnder_8 : decode cX4_isUnder 8 = .ok (.iload_n 1, 1) := by decide +kernel
theorem dX4_isUnder_9 : decode cX4_isUnder 9 = .ok (.aload_n 0, 1) := by decide +kernel
theorem dX4_isUnder_10 : decode cX4_isUnder 10 = .ok (.getfield 23, 3) := by decide +kernel
theorem dX4_isUnder_13 : decode cX4_isUnder 13 = .ok (.if_icmp .lt 15, 3) := by decide +kernel
theorem dX4_isUnder_16 : decode cX4_isUnder 16 = .ok (.iload_n 1, 1) := by decide +kernel
theorem dX4_isUnder_17 : decode cX4_isUnder 17 = .ok (.aload_n 0, 1) := by decide +kernel
theorem dX4_isUnder_18 : decode cX4_isUnder 18 = .ok (.getfield 26, 3) := by decide +kernel
theorem dX4_isUnder_21 : decode cX4_isUnder 21 = .ok (.if_icmp .ge 7, 3) := by decide +kernel
theorem dX4_isUnder_24 : decode cX4_isUnder 24 = .ok (.iconst 1, 1) := by decide +kernel
theorem dX4_isUnder_25 : decode cX4_isUnder 25 = .ok (.goto 4, 3) := by decide +kernel
theorem dX4_isUnder_28 : decode cX4_isUnder 28 = .ok (.iconst 0, 1) := by decide +kernel
theorem dX4_isUnder_29 : decode cX4_isUnder 29 = .ok (.ireturn, 1) := by decide +kernel
theorem dX4_isAtWork_0 : decode cX4_isAtWork 0 = .ok (.aload_n 0, 1) := by decide +kernel
theorem dX4_isAtWork_1 : decode cX4_isAtWork 1 = .ok (.iload_n 1, 1) := by decide +kernel
theorem dX4_isAtWork_2 : decode cX4_isAtWork 2 = .ok (.invokevirtual 66, 3) := by decide +kernel
theorem dX4_isAtWork_5 : decode cX4_isAtWork 5 = .ok (.ifCond .eq 22, 3) := by decide +kernel
theorem dX4_isAtWork_8 : decode cX4_isAtWork 8 = .ok (.aload_n 0, 1) := by decide +kernel
theorem dX4_isAtWork_9 : decode cX4_isAtWork 9 = .ok (.getfield 29, 3) := by decide +kernel
theorem dX4_isAtWork_12 : decode cX4_isAtWork 12 = .ok (.ifCond .ne 15, 3) := by decide +kernel
theorem dX4_isAtWork_15 : decode cX4_isAtWork 15 = .ok (.aload_n 0, 1) := by decide +kernel
theorem dX4_isAtWork_16 : decode cX4_isAtWork 16 = .ok (.getfield 33, 3) := by decide +kernel
theorem dX4_isAtWork_19 : decode cX4_isAtWork 19 = .ok (.iconst (-1), 1) := by decide +kernel
theorem dX4_isAtWork_20 : decode cX4_isAtWork 20 = .ok (.if_icmp .ne 7, 3) := by decide +kernel
theorem dX4_isAtWork_23 : decode cX4_isAtWork 23 = .ok (.iconst 1, 1) := by decide +kernel
theorem dX4_isAtWork_24 : decode cX4_isAtWork 24 = .ok (.goto 4, 3) := by decide +kernel
theorem dX4_isAtWork_27 : decode cX4_isAtWork 27 = .ok (.iconst 0, 1) := by decide +kernel
theorem dX4_isAtWork_28 : decode cX4_isAtWork 28 = .ok (.ireturn, 1) := by decide +kernel
theorem dX4_isReady_0 : decode cX4_isReady 0 = .ok (.aload_n 0, 1) := by decide +kernel
theorem dX4_isReady_1 : decode cX4_isReady 1 = .ok (.iload_n 1, 1) := by decide +kernel
theorem dX4_isReady_2 : decode cX4_isReady 2 = .ok (.invokevirtual 70, 3) := by decide +kernel
theorem dX4_isReady_5 : decode cX4_isReady 5 = .ok (.ifCond .eq 15, 3) := by decide +kernel
theorem dX4_isReady_8 : decode cX4_isReady 8 = .ok (.aload_n 0, 1) := by decide +kernel
theorem dX4_isReady_9 : decode cX4_isReady 9 = .ok (.iload_n 1, 1) := by decide +kernel
theorem dX4_isReady_10 : decode cX4_isReady 10 = .ok (.invokevirtual 73, 3) := by decide +kernel
theorem dX4_isReady_13 : decode cX4_isReady 13 = .ok (.ifCond .ne 7, 3) := by decide +kernel
theorem dX4_isReady_16 : decode cX4_isReady 16 = .ok (.iconst 1, 1) := by decide +kernel
theorem dX4_isReady_17 : decode cX4_isReady 17 = .ok (.goto 4, 3) := by decide +kernel
theorem dX4_isReady_20 : decode cX4_isReady 20 = .ok (.iconst 0, 1) := by decide +kernel
theorem dX4_isReady_21 : decode cX4_isReady 21 = .ok (.ireturn, 1) := by decide +kernel
theorem dX4_isIll_0 : decode cX4_isIll 0 = .ok (.aload_n 0, 1) := by decide +kernel
theorem dX4_isIll_1 : decode cX4_isIll 1 = .ok (.getfield 19, 3) := by decide +kernel
theorem dX4_isIll_4 : decode cX4_isIll 4 = .ok (.ifCond .le 23, 3) := by decide +kernel
theorem dX4_isIll_7 : decode cX4_isIll 7 = .ok (.aload_n 0, 1) := by decide +kernel
theorem dX4_isIll_8 : decode cX4_isIll 8 = .ok (.getfield 15, 3) := by decide +kernel
theorem dX4_isIll_11 : decode cX4_isIll 11 = .ok (.iload_n 1, 1) := by decide +kernel
theorem dX4_isIll_12 : decode cX4_isIll 12 = .ok (.aload_n 0, 1) := by decide +kernel
theorem dX4_isIll_13 : decode cX4_isIll 13 = .ok (.getfield 19, 3) := by decide +kernel
theorem dX4_isIll_16 : decode cX4_isIll 16 = .ok (.irem, 1) := by decide +kernel
theorem dX4_isIll_17 : decode cX4_isIll 17 = .ok (.laload, 1) := by decide +kernel
theorem dX4_isIll_18 : decode cX4_isIll 18 = .ok (.lconst 0, 1) := by decide +kernel
theorem dX4_isIll_19 : decode cX4_isIll 19 = .ok (.lcmp, 1) := by decide +kernel
theorem dX4_isIll_20 : decode cX4_isIll 20 = .ok (.ifCond .eq 7, 3) := by decide +kernel
theorem dX4_isIll_23 : decode cX4_isIll 23 = .ok (.iconst 1, 1) := by decide +kernel
theorem dX4_isIll_24 : decode cX4_isIll 24 = .ok (.goto 4, 3) := by decide +kernel
theorem dX4_isIll_27 : decode cX4_isIll 27 = .ok (.iconst 0, 1) := by decide +kernel
theorem dX4_isIll_28 : decode cX4_isIll 28 = .ok (.ireturn, 1) := by decide +kernel
theorem dX4_takeIllness_0 : decode cX4_takeIllness 0 = .ok (.aload_n 0, 1) := by decide +kernel
theorem dX4_takeIllness_1 : decode cX4_takeIllness 1 = .ok (.aload_n 1, 1) := by decide +kernel
theorem dX4_takeIllness_2 : decode cX4_takeIllness 2 = .ok (.getfield 76, 3) := by decide +kernel
theorem dX4_takeIllness_5 : decode cX4_takeIllness 5 = .ok (.putfield 19, 3) := by decide +kernel
theorem dX4_takeIllness_8 : decode cX4_takeIllness 8 = .ok (.aload_n 1, 1) := by decide +kernel
theorem dX4_takeIllness_9 : decode cX4_takeIllness 9 = .ok (.getfield 81, 3) := by decide +kernel
theorem dX4_takeIllness_12 : decode cX4_takeIllness 12 = .ok (.iconst 0, 1) := by decide +kernel
theorem dX4_takeIllness_13 : decode cX4_takeIllness 13 = .ok (.aload_n 0, 1) := by decide +kernel
theorem dX4_takeIllness_14 : decode cX4_takeIllness 14 = .ok (.getfield 15, 3) := by decide +kernel
theorem dX4_takeIllness_17 : decode cX4_takeIllness 17 = .ok (.iconst 0, 1) := by decide +kernel
theorem dX4_takeIllness_18 : decode cX4_takeIllness 18 = .ok (.aload_n 0, 1) := by decide +kernel
theorem dX4_takeIllness_19 : decode cX4_takeIllness 19 = .ok (.getfield 19, 3) := by decide +kernel
theorem dX4_takeIllness_22 : decode cX4_takeIllness 22 = .ok (.invokestatic 84, 3) := by decide +kernel
theorem dX4_takeIllness_25 : decode cX4_takeIllness 25 = .ok (.return_, 1) := by decide +kernel
theorem dX4_yearOfTerm_0 : decode cX4_yearOfTerm 0 = .ok (.iload_n 1, 1) := by decide +kernel
theorem dX4_yearOfTerm_1 : decode cX4_yearOfTerm 1 = .ok (.aload_n 0, 1) := by decide +kernel
theorem dX4_yearOfTerm_2 : decode cX4_yearOfTerm 2 = .ok (.getfield 23, 3) := by decide +kernel
theorem dX4_yearOfTerm_5 : decode cX4_yearOfTerm 5 = .ok (.isub, 1) := by decide +kernel
theorem dX4_yearOfTerm_6 : decode cX4_yearOfTerm 6 = .ok (.sipush 364, 3) := by decide +kernel
theorem dX4_yearOfTerm_9 : decode cX4_yearOfTerm 9 = .ok (.idiv, 1) := by decide +kernel
theorem dX4_yearOfTerm_10 : decode cX4_yearOfTerm 10 = .ok (.ireturn, 1) := by decide +kernel
theorem dX4_paidOn_0 : decode cX4_paidOn 0 = .ok (.aload_n 0, 1) := by decide +kernel
theorem dX4_paidOn_1 : decode cX4_paidOn 1 = .ok (.getfield 39, 3) := by decide +kernel
theorem dX4_paidOn_4 : decode cX4_paidOn 4 = .ok (.aload_n 0, 1) := by decide +kernel
theorem dX4_paidOn_5 : decode cX4_paidOn 5 = .ok (.iload_n 1, 1) := by decide +kernel
theorem dX4_paidOn_6 : decode cX4_paidOn 6 = .ok (.invokevirtual 90, 3) := by decide +kernel
theorem dX4_paidOn_9 : decode cX4_paidOn 9 = .ok (.if_icmp .ne 10, 3) := by decide +kernel
theorem dX4_paidOn_12 : decode cX4_paidOn 12 = .ok (.aload_n 0, 1) := by decide +kernel
theorem dX4_paidOn_13 : decode cX4_paidOn 13 = .ok (.getfield 42, 3) := by decide +kernel
theorem dX4_paidOn_16 : decode cX4_paidOn 16 = .ok (.goto 4, 3) := by decide +kernel
theorem dX4_paidOn_19 : decode cX4_paidOn 19 = .ok (.iconst 0, 1) := by decide +kernel
theorem dX4_paidOn_20 : decode cX4_paidOn 20 = .ok (.ireturn, 1) := by decide +kernel
theorem dX4_addPaidWeek_0 : decode cX4_addPaidWeek 0 = .ok (.aload_n 0, 1) := by decide +kernel
theorem dX4_addPaidWeek_1 : decode cX4_addPaidWeek 1 = .ok (.aload_n 0, 1) := by decide +kernel
theorem dX4_addPaidWeek_2 : decode cX4_addPaidWeek 2 = .ok (.iload_n 1, 1) := by decide +kernel
theorem dX4_addPaidWeek_3 : decode cX4_addPaidWeek 3 = .ok (.invokevirtual 94, 3) := by decide +kernel
theorem dX4_addPaidWeek_6 : decode cX4_addPaidWeek 6 = .ok (.iconst 1, 1) := by decide +kernel
theorem dX4_addPaidWeek_7 : decode cX4_addPaidWeek 7 = .ok (.iadd, 1) := by decide +kernel
theorem dX4_addPaidWeek_8 : decode cX4_addPaidWeek 8 = .ok (.putfield 42, 3) := by decide +kernel
theorem dX4_addPaidWeek_11 : decode cX4_addPaidWeek 11 = .ok (.aload_n 0, 1) := by decide +kernel
theorem dX4_addPaidWeek_12 : decode cX4_addPaidWeek 12 = .ok (.aload_n 0, 1) := by decide +kernel
theorem dX4_addPaidWeek_13 : decode cX4_addPaidWeek 13 = .ok (.iload_n 1, 1) := by decide +kernel
theorem dX4_addPaidWeek_14 : decode cX4_addPaidWeek 14 = .ok (.invokevirtual 90, 3) := by decide +kernel
theorem dX4_addPaidWeek_17 : decode cX4_addPaidWeek 17 = .ok (.putfield 39, 3) := by decide +kernel
theorem dX4_addPaidWeek_20 : decode cX4_addPaidWeek 20 = .ok (.aload_n 0, 1) := by decide +kernel
theorem dX4_addPaidWeek_21 : decode cX4_addPaidWeek 21 = .ok (.dup, 1) := by decide +kernel
theorem dX4_addPaidWeek_22 : decode cX4_addPaidWeek 22 = .ok (.getfield 36, 3) := by decide +kernel
theorem dX4_addPaidWeek_25 : decode cX4_addPaidWeek 25 = .ok (.iconst 1, 1) := by decide +kernel
theorem dX4_addPaidWeek_26 : decode cX4_addPaidWeek 26 = .ok (.iadd, 1) := by decide +kernel
theorem dX4_addPaidWeek_27 : decode cX4_addPaidWeek 27 = .ok (.putfield 36, 3) := by decide +kernel
theorem dX4_addPaidWeek_30 : decode cX4_addPaidWeek 30 = .ok (.return_, 1) := by decide +kernel
theorem dX4_refusalsOn_0 : decode cX4_refusalsOn 0 = .ok (.aload_n 0, 1) := by decide +kernel
theorem dX4_refusalsOn_1 : decode cX4_refusalsOn 1 = .ok (.getfield 45, 3) := by decide +kernel
theorem dX4_refusalsOn_4 : decode cX4_refusalsOn 4 = .ok (.aload_n 0, 1) := by decide +kernel
theorem dX4_refusalsOn_5 : decode cX4_refusalsOn 5 = .ok (.iload_n 1, 1) := by decide +kernel
theorem dX4_refusalsOn_6 : decode cX4_refusalsOn 6 = .ok (.invokevirtual 90, 3) := by decide +kernel
theorem dX4_refusalsOn_9 : decode cX4_refusalsOn 9 = .ok (.if_icmp .ne 10, 3) := by decide +kernel
theorem dX4_refusalsOn_12 : decode cX4_refusalsOn 12 = .ok (.aload_n 0, 1) := by decide +kernel
theorem dX4_refusalsOn_13 : decode cX4_refusalsOn 13 = .ok (.getfield 48, 3) := by decide +kernel
theorem dX4_refusalsOn_16 : decode cX4_refusalsOn 16 = .ok (.goto 4, 3) := by decide +kernel
theorem dX4_refusalsOn_19 : decode cX4_refusalsOn 19 = .ok (.iconst 0, 1) := by decide +kernel
theorem dX4_refusalsOn_20 : decode cX4_refusalsOn 20 = .ok (.ireturn, 1) := by decide +kernel
theorem dX4_addRefusal_0 : decode cX4_addRefusal 0 = .ok (.aload_n 0, 1) := by decide +kernel
theorem dX4_addRefusal_1 : decode cX4_addRefusal 1 = .ok (.aload_n 0, 1) := by decide +kernel
theorem dX4_addRefusal_2 : decode cX4_addRefusal 2 = .ok (.iload_n 1, 1) := by decide +kernel
theorem dX4_addRefusal_3 : decode cX4_addRefusal 3 = .ok (.invokevirtual 97, 3) := by decide +kernel
theorem dX4_addRefusal_6 : decode cX4_addRefusal 6 = .ok (.iconst 1, 1) := by decide +kernel
theorem dX4_addRefusal_7 : decode cX4_addRefusal 7 = .ok (.iadd, 1) := by decide +kernel
theorem dX4_addRefusal_8 : decode cX4_addRefusal 8 = .ok (.putfield 48, 3) := by decide +kernel
theorem dX4_addRefusal_11 : decode cX4_addRefusal 11 = .ok (.aload_n 0, 1) := by decide +kernel
theorem dX4_addRefusal_12 : decode cX4_addRefusal 12 = .ok (.aload_n 0, 1) := by decide +kernel
theorem dX4_addRefusal_13 : decode cX4_addRefusal 13 = .ok (.iload_n 1, 1) := by decide +kernel
theorem dX4_addRefusal_14 : decode cX4_addRefusal 14 = .ok (.invokevirtual 90, 3) := by decide +kernel
theorem dX4_addRefusal_17 : decode cX4_addRefusal 17 = .ok (.putfield 45, 3) := by decide +kernel
theorem dX4_addRefusal_20 : decode cX4_addRefusal 20 = .ok (.return_, 1) := by decide +kernel
theorem dX4_settle_0 : decode cX4_settle 0 = .ok (.aload_n 0, 1) := by decide +kernel
theorem dX4_settle_1 : decode cX4_settle 1 = .ok (.iload_n 1, 1) := by decide +kernel
theorem dX4_settle_2 : decode cX4_settle 2 = .ok (.invokevirtual 66, 3) := by decide +kernel
theorem dX4_settle_5 : decode cX4_settle 5 = .ok (.ifCond .ne 16, 3) := by decide +kernel
theorem dX4_settle_8 : decode cX4_settle 8 = .ok (.aload_n 0, 1) := by decide +kernel
theorem dX4_settle_9 : decode cX4_settle 9 = .ok (.iconst 0, 1) := by decide +kernel
theorem dX4_settle_10 : decode cX4_settle 10 = .ok (.putfield 29, 3) := by decide +kernel
theorem dX4_settle_13 : decode cX4_settle 13 = .ok (.aload_n 0, 1) := by decide +kernel
theorem dX4_settle_14 : decode cX4_settle 14 = .ok (.iconst (-1), 1) := by decide +kernel
theorem dX4_settle_15 : decode cX4_settle 15 = .ok (.putfield 33, 3) := by decide +kernel
theorem dX4_settle_18 : decode cX4_settle 18 = .ok (.goto 16, 3) := by decide +kernel
theorem dX4_settle_21 : decode cX4_settle 21 = .ok (.aload_n 0, 1) := by decide +kernel
theorem dX4_settle_22 : decode cX4_settle 22 = .ok (.getfield 33, 3) := by decide +kernel
theorem dX4_settle_25 : decode cX4_settle 25 = .ok (.iload_n 1, 1) := by decide +kernel
theorem dX4_settle_26 : decode cX4_settle 26 = .ok (.if_icmp .gt 8, 3) := by decide +kernel
theorem dX4_settle_29 : decode cX4_settle 29 = .ok (.aload_n 0, 1) := by decide +kernel
theorem dX4_settle_30 : decode cX4_settle 30 = .ok (.iconst (-1), 1) := by decide +kernel
theorem dX4_settle_31 : decode cX4_settle 31 = .ok (.putfield 33, 3) := by decide +kernel
theorem dX4_settle_34 : decode cX4_settle 34 = .ok (.return_, 1) := by decide +kernel
theorem dX5_init_0 : decode cX5_init 0 = .ok (.aload_n 0, 1) := by decide +kernel
theorem dX5_init_1 : decode cX5_init 1 = .ok (.invokespecial 3, 3) := by decide +kernel
theorem dX5_init_4 : decode cX5_init 4 = .ok (.aload_n 0, 1) := by decide +kernel
theorem dX5_init_5 : decode cX5_init 5 = .ok (.bipush 8, 2) := by decide +kernel
theorem dX5_init_7 : decode cX5_init 7 = .ok (.anewarray 9, 3) := by decide +kernel
theorem dX5_init_10 : decode cX5_init 10 = .ok (.putfield 11, 3) := by decide +kernel
theorem dX5_init_13 : decode cX5_init 13 = .ok (.aload_n 0, 1) := by decide +kernel
theorem dX5_init_14 : decode cX5_init 14 = .ok (.iconst 0, 1) := by decide +kernel
theorem dX5_init_15 : decode cX5_init 15 = .ok (.putfield 17, 3) := by decide +kernel
theorem dX5_init_18 : decode cX5_init 18 = .ok (.aload_n 0, 1) := by decide +kernel
theorem dX5_init_19 : decode cX5_init 19 = .ok (.iconst 0, 1) := by decide +kernel
theorem dX5_init_20 : decode cX5_init 20 = .ok (.putfield 21, 3) := by decide +kernel
theorem dX5_init_23 : decode cX5_init 23 = .ok (.aload_n 0, 1) := by decide +kernel
theorem dX5_init_24 : decode cX5_init 24 = .ok (.bipush 8, 2) := by decide +kernel
theorem dX5_init_26 : decode cX5_init 26 = .ok (.newarray .int, 2) := by decide +kernel
theorem dX5_init_28 : decode cX5_init 28 = .ok (.putfield 25, 3) := by decide +kernel
theorem dX5_init_31 : decode cX5_init 31 = .ok (.aload_n 0, 1) := by decide +kernel
theorem dX5_init_32 : decode cX5_init 32 = .ok (.iconst (-1), 1) := by decide +kernel
theorem dX5_init_33 : decode cX5_init 33 = .ok (.putfield 29, 3) := by decide +kernel
theorem dX5_init_36 : decode cX5_init 36 = .ok (.aload_n 0, 1) := by decide +kernel
theorem dX5_init_37 : decode cX5_init 37 = .ok (.iconst 0, 1) := by decide +kernel
theorem dX5_init_38 : decode cX5_init 38 = .ok (.putfield 32, 3) := by decide +kernel
theorem dX5_init_41 : decode cX5_init 41 = .ok (.aload_n 0, 1) := by decide +kernel
theorem dX5_init_42 : decode cX5_init 42 = .ok (.iconst 0, 1) := by decide +kernel
theorem dX5_init_43 : decode cX5_init 43 = .ok (.putfield 35, 3) := by decide +kernel
theorem dX5_init_46 : decode cX5_init 46 = .ok (.aload_n 0, 1) := by decide +kernel
theorem dX5_init_47 : decode cX5_init 47 = .ok (.iconst 0, 1) := by decide +kernel
theorem dX5_init_48 : decode cX5_init 48 = .ok (.putfield 38, 3) := by decide +kernel
theorem dX5_init_51 : decode cX5_init 51 = .ok (.aload_n 0, 1) := by decide +kernel
theorem dX5_init_52 : decode cX5_init 52 = .ok (.iconst 0, 1) := by decide +kernel
theorem dX5_init_53 : decode cX5_init 53 = .ok (.putfield 41, 3) := by decide +kernel
theorem dX5_init_56 : decode cX5_init 56 = .ok (.aload_n 0, 1) := by decide +kernel
theorem dX5_init_57 : decode cX5_init 57 = .ok (.bipush 60, 2) := by decide +kernel
theorem dX5_init_59 : decode cX5_init 59 = .ok (.newarray .long, 2) := by decide +kernel
theorem dX5_init_61 : decode cX5_init 61 = .ok (.putfield 44, 3) := by decide +kernel
theorem dX5_init_64 : decode cX5_init 64 = .ok (.aload_n 0, 1) := by decide +kernel
theorem dX5_init_65 : decode cX5_init 65 = .ok (.bipush 60, 2) := by decide +kernel
theorem dX5_init_67 : decode cX5_init 67 = .ok (.newarray .int, 2) := by decide +kernel
theorem dX5_init_69 : decode cX5_init 69 = .ok (.putfield 48, 3) := by decide +kernel
theorem dX5_init_72 : decode cX5_init 72 = .ok (.aload_n 0, 1) := by decide +kernel
theorem dX5_init_73 : decode cX5_init 73 = .ok (.iconst 0, 1) := by decide +kernel
theorem dX5_init_74 : decode cX5_init 74 = .ok (.putfield 51, 3) := by decide +kernel
theorem dX5_init_77 : decode cX5_init 77 = .ok (.aload_n 0, 1) := by decide +kernel
theorem dX5_init_78 : decode cX5_init 78 = .ok (.bipush 8, 2) := by decide +kernel
theorem dX5_init_80 : decode cX5_init 80 = .ok (.newarray .int, 2) := by decide +kernel
theorem dX5_init_82 : decode cX5_init 82 = .ok (.putfield 54, 3) := by decide +kernel
theorem dX5_init_85 : decode cX5_init 85 = .ok (.aload_n 0, 1) := by decide +kernel
theorem dX5_init_86 : decode cX5_init 86 = .ok (.iconst 4, 1) := by decide +kernel
theorem dX5_init_87 : decode cX5_init 87 = .ok (.newarray .int, 2) := by decide +kernel
theorem dX5_init_89 : decode cX5_init 89 = .ok (.putfield 57, 3) := by decide +kernel
theorem dX5_init_92 : decode cX5_init 92 = .ok (.aload_n 0, 1) := by decide +kernel
theorem dX5_init_93 : decode cX5_init 93 = .ok (.iconst 4, 1) := by decide +kernel
theorem dX5_init_94 : decode cX5_init 94 = .ok (.newarray .int, 2) := by decide +kernel
theorem dX5_init_96 : decode cX5_init 96 = .ok (.putfield 60, 3) := by decide +kernel
theorem dX5_init_99 : decode cX5_init 99 = .ok (.aload_n 0, 1) := by decide +kernel
theorem dX5_init_100 : decode cX5_init 100 = .ok (.iconst 1, 1) := by decide +kernel
theorem dX5_init_101 : decode cX5_init 101 = .ok (.putfield 63, 3) := by decide +kernel
theorem dX5_init_104 : decode cX5_init 104 = .ok (.aload_n 0, 1) := by decide +kernel
theorem dX5_init_105 : decode cX5_init 105 = .ok (.bipush 8, 2) := by decide +kernel
theorem dX5_init_107 : decode cX5_init 107 = .ok (.newarray .int, 2) := by decide +kernel
theorem dX5_init_109 : decode cX5_init 109 = .ok (.putfield 66, 3) := by decide +kernel
theorem dX5_init_112 : decode cX5_init 112 = .ok (.aload_n 0, 1) := by decide +kernel
theorem dX5_init_113 : decode cX5_init 113 = .ok (.iload_n 1, 1) := by decide +kernel
theorem dX5_init_114 : decode cX5_init 114 = .ok (.putfield 69, 3) := by decide +kernel
theorem dX5_init_117 : decode cX5_init 117 = .ok (.iconst 0, 1) := by decide +kernel
theorem dX5_init_118 : decode cX5_init 118 = .ok (.istore_n 2, 1) := by decide +kernel
theorem dX5_init_119 : decode cX5_init 119 = .ok (.iload_n 2, 1) := by decide +kernel
theorem dX5_init_120 : decode cX5_init 120 = .ok (.bipush 8, 2) := by decide +kernel
theorem dX5_init_122 : decode cX5_init 122 = .ok (.if_icmp .ge 16, 3) := by decide +kernel
theorem dX5_init_125 : decode cX5_init 125 = .ok (.aload_n 0, 1) := by decide +kernel
theorem dX5_init_126 : decode cX5_init 126 = .ok (.getfield 54, 3) := by decide +kernel
theorem dX5_init_129 : decode cX5_init 129 = .ok (.iload_n 2, 1) := by decide +kernel
theorem dX5_init_130 : decode cX5_init 130 = .ok (.iconst (-1), 1) := by decide +kernel
theorem dX5_init_131 : decode cX5_init 131 = .ok (.iastore, 1) := by decide +kernel
theorem dX5_init_132 : decode cX5_init 132 = .ok (.iinc 2 1, 3) := by decide +kernel
theorem dX5_init_135 : decode cX5_init 135 = .ok (.goto (-16), 3) := by decide +kernel
theorem dX5_init_138 : decode cX5_init 138 = .ok (.return_, 1) := by decide +kernel
theorem dX5_beginShooting_0 : decode cX5_beginShooting 0 = .ok (.aload_n 0, 1) := by decide +kernel
theorem dX5_beginShooting_1 : decode cX5_beginShooting 1 = .ok (.iconst 1, 1) := by decide +kernel
theorem dX5_beginShooting_2 : decode cX5_beginShooting 2 = .ok (.putfield 21, 3) := by decide +kernel
theorem dX5_beginShooting_5 : decode cX5_beginShooting 5 = .ok (.iconst 0, 1) := by decide +kernel
theorem dX5_beginShooting_6 : decode cX5_beginShooting 6 = .ok (.istore_n 2, 1) := by decide +kernel
theorem dX5_beginShooting_7 : decode cX5_beginShooting 7 = .ok (.iload_n 2, 1) := by decide +kernel
theorem dX5_beginShooting_8 : decode cX5_beginShooting 8 = .ok (.aload_n 0, 1) := by decide +kernel
theorem dX5_beginShooting_9 : decode cX5_beginShooting 9 = .ok (.getfield 17, 3) := by decide +kernel
theorem dX5_beginShooting_12 : decode cX5_beginShooting 12 = .ok (.if_icmp .ge 42, 3) := by decide +kernel
theorem dX5_beginShooting_15 : decode cX5_beginShooting 15 = .ok (.iload_n 2, 1) := by decide +kernel
theorem dX5_beginShooting_16 : decode cX5_beginShooting 16 = .ok (.aload_n 1, 1) := by decide +kernel
theorem dX5_beginShooting_17 : decode cX5_beginShooting 17 = .ok (.arraylength, 1) := by decide +kernel
theorem dX5_beginShooting_18 : decode cX5_beginShooting 18 = .ok (.if_icmp .ge 36, 3) := by decide +kernel
theorem dX5_beginShooting_21 : decode cX5_beginShooting 21 = .ok (.aload_n 0, 1) := by decide +kernel
theorem dX5_beginShooting_22 : decode cX5_beginShooting 22 = .ok (.getfield 25, 3) := by decide +kernel
theorem dX5_beginShooting_25 : decode cX5_beginShooting 25 = .ok (.iload_n 2, 1) := by decide +kernel
theorem dX5_beginShooting_26 : decode cX5_beginShooting 26 = .ok (.aload_n 1, 1) := by decide +kernel
theorem dX5_beginShooting_27 : decode cX5_beginShooting 27 = .ok (.iload_n 2, 1) := by decide +kernel
theorem dX5_beginShooting_28 : decode cX5_beginShooting 28 = .ok (.iaload, 1) := by decide +kernel
theorem dX5_beginShooting_29 : decode cX5_beginShooting 29 = .ok (.iastore, 1) := by decide +kernel
theorem dX5_beginShooting_30 : decode cX5_beginShooting 30 = .ok (.aload_n 0, 1) := by decide +kernel
theorem dX5_beginShooting_31 : decode cX5_beginShooting 31 = .ok (.getfield 11, 3) := by decide +kernel
theorem dX5_beginShooting_34 : decode cX5_beginShooting 34 = .ok (.iload_n 2, 1) := by decide +kernel
theorem dX5_beginShooting_35 : decode cX5_beginShooting 35 = .ok (.aaload, 1) := by decide +kernel
theorem dX5_beginShooting_36 : decode cX5_beginShooting 36 = .ok (.aload_n 0, 1) := by decide +kernel
theorem dX5_beginShooting_37 : decode cX5_beginShooting 37 = .ok (.getfield 11, 3) := by decide +kernel
theorem dX5_beginShooting_40 : decode cX5_beginShooting 40 = .ok (.iload_n 2, 1) := by decide +kernel
theorem dX5_beginShooting_41 : decode cX5_beginShooting 41 = .ok (.aaload, 1) := by decide +kernel
theorem dX5_beginShooting_42 : decode cX5_beginShooting 42 = .ok (.getfield 72, 3) := by decide +kernel
theorem dX5_beginShooting_45 : decode cX5_beginShooting 45 = .ok (.putfield 75, 3) := by decide +kernel
theorem dX5_beginShooting_48 : decode cX5_beginShooting 48 = .ok (.iinc 2 1, 3) := by decide +kernel
theorem dX5_beginShooting_51 : decode cX5_beginShooting 51 = .ok (.goto (-44), 3) := by decide +kernel
theorem dX5_beginShooting_54 : decode cX5_beginShooting 54 = .ok (.return_, 1) := by decide +kernel
theorem dX5_leftOfAll_0 : decode cX5_leftOfAll 0 = .ok (.iconst 0, 1) := by decide +kernel
theorem dX5_leftOfAll_1 : decode cX5_leftOfAll 1 = .ok (.istore_n 1, 1) := by decide +kernel
theorem dX5_leftOfAll_2 : decode cX5_leftOfAll 2 = .ok (.iconst 0, 1) := by decide +kernel
theorem dX5_leftOfAll_3 : decode cX5_leftOfAll 3 = .ok (.istore_n 2, 1) := by decide +kernel
theorem dX5_leftOfAll_4 : decode cX5_leftOfAll 4 = .ok (.iload_n 2, 1) := by decide +kernel
theorem dX5_leftOfAll_5 : decode cX5_leftOfAll 5 = .ok (.aload_n 0, 1) := by decide +kernel
theorem dX5_leftOfAll_6 : decode cX5_leftOfAll 6 = .ok (.getfield 17, 3) := by decide +kernel
theorem dX5_leftOfAll_9 : decode cX5_leftOfAll 9 = .ok (.if_icmp .ge 21, 3) := by decide +kernel
theorem dX5_leftOfAll_12 : decode cX5_leftOfAll 12 = .ok (.iload_n 1, 1) := by decide +kernel
theorem dX5_leftOfAll_13 : decode cX5_leftOfAll 13 = .ok (.aload_n 0, 1) := by decide +kernel
theorem dX5_leftOfAll_14 : decode cX5_leftOfAll 14 = .ok (.getfield 11, 3) := by decide +kernel
theorem dX5_leftOfAll_17 : decode cX5_leftOfAll 17 = .ok (.iload_n 2, 1) := by decide +kernel
theorem dX5_leftOfAll_18 : decode cX5_leftOfAll 18 = .ok (.aaload, 1) := by decide +kernel
theorem dX5_leftOfAll_19 : decode cX5_leftOfAll 19 = .ok (.getfield 75, 3) := by decide +kernel
theorem dX5_leftOfAll_22 : decode cX5_leftOfAll 22 = .ok (.iadd, 1) := by decide +kernel
theorem dX5_leftOfAll_23 : decode cX5_leftOfAll 23 = .ok (.istore_n 1, 1) := by decide +kernel
theorem dX5_leftOfAll_24 : decode cX5_leftOfAll 24 = .ok (.iinc 2 1, 3) := by decide +kernel
theorem dX5_leftOfAll_27 : decode cX5_leftOfAll 27 = .ok (.goto (-23), 3) := by decide +kernel
theorem dX5_leftOfAll_30 : decode cX5_leftOfAll 30 = .ok (.iload_n 1, 1) := by decide +kernel
theorem dX5_leftOfAll_31 : decode cX5_leftOfAll 31 = .ok (.ireturn, 1) := by decide +kernel
theorem dX5_nextScene_0 : decode cX5_nextScene 0 = .ok (.iconst 0, 1) := by decide +kernel
theorem dX5_nextScene_1 : decode cX5_nextScene 1 = .ok (.istore_n 2, 1) := by decide +kernel
theorem dX5_nextScene_2 : decode cX5_nextScene 2 = .ok (.iload_n 2, 1) := by decide +kernel
theorem dX5_nextScene_3 : decode cX5_nextScene 3 = .ok (.aload_n 0, 1) := by decide +kernel
theorem dX5_nextScene_4 : decode cX5_nextScene 4 = .ok (.getfield 17, 3) := by decide +kernel
theorem dX5_nextScene_7 : decode cX5_nextScene 7 = .ok (.if_icmp .ge 46, 3) := by decide +kernel
theorem dX5_nextScene_10 : decode cX5_nextScene 10 = .ok (.aload_n 0, 1) := by decide +kernel
theorem dX5_nextScene_11 : decode cX5_nextScene 11 = .ok (.getfield 11, 3) := by decide +kernel
theorem dX5_nextScene_14 : decode cX5_nextScene 14 = .ok (.aload_n 0, 1) := by decide +kernel
theorem dX5_nextScene_15 : decode cX5_nextScene 15 = .ok (.getfield 25, 3) := by decide +kernel
theorem dX5_nextScene_18 : decode cX5_nextScene 18 = .ok (.iload_n 2, 1) := by decide +kernel
theorem dX5_nextScene_19 : decode cX5_nextScene 19 = .ok (.iaload, 1) := by decide +kernel
theorem dX5_nextScene_20 : decode cX5_nextScene 20 = .ok (.aaload, 1) := by decide +kernel
theorem dX5_nextScene_21 : decode cX5_nextScene 21 = .ok (.astore_n 3, 1) := by decide +kernel
theorem dX5_nextScene_22 : decode cX5_nextScene 22 = .ok (.aload_n 3, 1) := by decide +kernel
theorem dX5_nextScene_23 : decode cX5_nextScene 23 = .ok (.getfield 75, 3) := by decide +kernel
theorem dX5_nextScene_26 : decode cX5_nextScene 26 = .ok (.ifCond .le 21, 3) := by decide +kernel
theorem dX5_nextScene_29 : decode cX5_nextScene 29 = .ok (.aload_n 3, 1) := by decide +kernel
theorem dX5_nextScene_30 : decode cX5_nextScene 30 = .ok (.getfield 78, 3) := by decide +kernel
theorem dX5_nextScene_33 : decode cX5_nextScene 33 = .ok (.iload_n 1, 1) := by decide +kernel
theorem dX5_nextScene_34 : decode cX5_nextScene 34 = .ok (.iconst (-1), 1) := by decide +kernel
theorem dX5_nextScene_35 : decode cX5_nextScene 35 = .ok (.ixor, 1) := by decide +kernel
theorem dX5_nextScene_36 : decode cX5_nextScene 36 = .ok (.iand, 1) := by decide +kernel
theorem dX5_nextScene_37 : decode cX5_nextScene 37 = .ok (.ifCond .ne 10, 3) := by decide +kernel
theorem dX5_nextScene_40 : decode cX5_nextScene 40 = .ok (.aload_n 0, 1) := by decide +kernel
theorem dX5_nextScene_41 : decode cX5_nextScene 41 = .ok (.getfield 25, 3) := by decide +kernel
theorem dX5_nextScene_44 : decode cX5_nextScene 44 = .ok (.iload_n 2, 1) := by decide +kernel
theorem dX5_nextScene_45 : decode cX5_nextScene 45 = .ok (.iaload, 1) := by decide +kernel
theorem dX5_nextScene_46 : decode cX5_nextScene 46 = .ok (.ireturn, 1) := by decide +kernel
theorem dX5_nextScene_47 : decode cX5_nextScene 47 = .ok (.iinc 2 1, 3) := by decide +kernel
theorem dX5_nextScene_50 : decode cX5_nextScene 50 = .ok (.goto (-48), 3) := by decide +kernel
theorem dX5_nextScene_53 : decode cX5_nextScene 53 = .ok (.iconst (-1), 1) := by decide +kernel
theorem dX5_nextScene_54 : decode cX5_nextScene 54 = .ok (.ireturn, 1) := by decide +kernel
theorem dX5_castOfAll_0 : decode cX5_castOfAll 0 = .ok (.iconst 0, 1) := by decide +kernel
theorem dX5_castOfAll_1 : decode cX5_castOfAll 1 = .ok (.istore_n 1, 1) := by decide +kernel
theorem dX5_castOfAll_2 : decode cX5_castOfAll 2 = .ok (.iconst 0, 1) := by decide +kernel
theorem dX5_castOfAll_3 : decode cX5_castOfAll 3 = .ok (.istore_n 2, 1) := by decide +kernel
theorem dX5_castOfAll_4 : decode cX5_castOfAll 4 = .ok (.iload_n 2, 1) := by decide +kernel
theorem dX5_castOfAll_5 : decode cX5_castOfAll 5 = .ok (.aload_n 0, 1) := by decide +kernel
theorem dX5_castOfAll_6 : decode cX5_castOfAll 6 = .ok (.getfield 17, 3) := by decide +kernel
theorem dX5_castOfAll_9 : decode cX5_castOfAll 9 = .ok (.if_icmp .ge 21, 3) := by decide +kernel
theorem dX5_castOfAll_12 : decode cX5_castOfAll 12 = .ok (.iload_n 1, 1) := by decide +kernel
theorem dX5_castOfAll_13 : decode cX5_castOfAll 13 = .ok (.aload_n 0, 1) := by decide +kernel
theorem dX5_castOfAll_14 : decode cX5_castOfAll 14 = .ok (.getfield 11, 3) := by decide +kernel
theorem dX5_castOfAll_17 : decode cX5_castOfAll 17 = .ok (.iload_n 2, 1) := by decide +kernel
theorem dX5_castOfAll_18 : decode cX5_castOfAll 18 = .ok (.aaload, 1) := by decide +kernel
theorem dX5_castOfAll_19 : decode cX5_castOfAll 19 = .ok (.getfield 78, 3) := by decide +kernel
theorem dX5_castOfAll_22 : decode cX5_castOfAll 22 = .ok (.ior, 1) := by decide +kernel
theorem dX5_castOfAll_23 : decode cX5_castOfAll 23 = .ok (.istore_n 1, 1) := by decide +kernel
theorem dX5_castOfAll_24 : decode cX5_castOfAll 24 = .ok (.iinc 2 1, 3) := by decide +kernel
theorem dX5_castOfAll_27 : decode cX5_castOfAll 27 = .ok (.goto (-23), 3) := by decide +kernel
theorem dX5_castOfAll_30 : decode cX5_castOfAll 30 = .ok (.iload_n 1, 1) := by decide +kernel
theorem dX5_castOfAll_31 : decode cX5_castOfAll 31 = .ok (.ireturn, 1) := by decide +kernel
theorem dX5_linesOf_0 : decode cX5_linesOf 0 = .ok (.iconst 0, 1) := by decide +kernel
theorem dX5_linesOf_1 : decode cX5_linesOf 1 = .ok (.istore_n 2, 1) := by decide +kernel
theorem dX5_linesOf_2 : decode cX5_linesOf 2 = .ok (.iconst 0, 1) := by decide +kernel
theorem dX5_linesOf_3 : decode cX5_linesOf 3 = .ok (.istore_n 3, 1) := by decide +kernel
theorem dX5_linesOf_4 : decode cX5_linesOf 4 = .ok (.iload_n 3, 1) := by decide +kernel
theorem dX5_linesOf_5 : decode cX5_linesOf 5 = .ok (.aload_n 0, 1) := by decide +kernel
theorem dX5_linesOf_6 : decode cX5_linesOf 6 = .ok (.getfield 51, 3) := by decide +kernel
theorem dX5_linesOf_9 : decode cX5_linesOf 9 = .ok (.if_icmp .ge 22, 3) := by decide +kernel
theorem dX5_linesOf_12 : decode cX5_linesOf 12 = .ok (.aload_n 0, 1) := by decide +kernel
theorem dX5_linesOf_13 : decode cX5_linesOf 13 = .ok (.getfield 48, 3) := by decide +kernel
theorem dX5_linesOf_16 : decode cX5_linesOf 16 = .ok (.iload_n 3, 1) := by decide +kernel
theorem dX5_linesOf_17 : decode cX5_linesOf 17 = .ok (.iaload, 1) := by decide +kernel
theorem dX5_linesOf_18 : decode cX5_linesOf 18 = .ok (.iload_n 1, 1) := by decide +kernel
theorem dX5_linesOf_19 : decode cX5_linesOf 19 = .ok (.if_icmp .ne 6, 3) := by decide +kernel
theorem dX5_linesOf_22 : decode cX5_linesOf 22 = .ok (.iinc 2 1, 3) := by decide +kernel
theorem dX5_linesOf_25 : decode cX5_linesOf 25 = .ok (.iinc 3 1, 3) := by decide +kernel
theorem dX5_linesOf_28 : decode cX5_linesOf 28 = .ok (.goto (-24), 3) := by decide +kernel
theorem dX5_linesOf_31 : decode cX5_linesOf 31 = .ok (.iload_n 2, 1) := by decide +kernel
theorem dX5_linesOf_32 : decode cX5_linesOf 32 = .ok (.ireturn, 1) := by decide +kernel
theorem dX6_init_0 : decode cX6_init 0 = .ok (.aload_n 0, 1) := by decide +kernel
theorem dX6_init_1 : decode cX6_init 1 = .ok (.invokespecial 3, 3) := by decide +kernel
theorem dX6_init_4 : decode cX6_init 4 = .ok (.aload_n 0, 1) := by decide +kernel
theorem dX6_init_5 : decode cX6_init 5 = .ok (.bipush 8, 2) := by decide +kernel
theorem dX6_init_7 : decode cX6_init 7 = .ok (.newarray .int, 2) := by decide +kernel
theorem dX6_init_9 : decode cX6_init 9 = .ok (.putfield 9, 3) := by decide +kernel
theorem dX6_init_12 : decode cX6_init 12 = .ok (.aload_n 0, 1) := by decide +kernel
theorem dX6_init_13 : decode cX6_init 13 = .ok (.iconst 0, 1) := by decide +kernel
theorem dX6_init_14 : decode cX6_init 14 = .ok (.putfield 15, 3) := by decide +kernel
theorem dX6_init_17 : decode cX6_init 17 = .ok (.aload_n 0, 1) := by decide +kernel
theorem dX6_init_18 : decode cX6_init 18 = .ok (.iconst 0, 1) := by decide +kernel
theorem dX6_init_19 : decode cX6_init 19 = .ok (.putfield 19, 3) := by decide +kernel
theorem dX6_init_22 : decode cX6_init 22 = .ok (.aload_n 0, 1) := by decide +kernel
theorem dX6_init_23 : decode cX6_init 23 = .ok (.iconst 0, 1) := by decide +kernel
theorem dX6_init_24 : decode cX6_init 24 = .ok (.putfield 22, 3) := by decide +kernel
theorem dX6_init_27 : decode cX6_init 27 = .ok (.aload_n 0, 1) := by decide +kernel
theorem dX6_init_28 : decode cX6_init 28 = .ok (.bipush 8, 2) := by decide +kernel
theorem dX6_init_30 : decode cX6_init 30 = .ok (.newarray .int, 2) := by decide +kernel
theorem dX6_init_32 : decode cX6_init 32 = .ok (.putfield 25, 3) := by decide +kernel
theorem dX6_init_35 : decode cX6_init 35 = .ok (.aload_n 0, 1) := by decide +kernel
theorem dX6_init_36 : decode cX6_init 36 = .ok (.bipush 8, 2) := by decide +kernel
theorem dX6_init_38 : decode cX6_init 38 = .ok (.newarray .int, 2) := by decide +kernel
theorem dX6_init_40 : decode cX6_init 40 = .ok (.putfield 28, 3) := by decide +kernel
theorem dX6_init_43 : decode cX6_init 43 = .ok (.aload_n 0, 1) := by decide +kernel
theorem dX6_init_44 : decode cX6_init 44 = .ok (.bipush 9, 2) := by decide +kernel
theorem dX6_init_46 : decode cX6_init 46 = .ok (.newarray .int, 2) := by decide +kernel
theorem dX6_init_48 : decode cX6_init 48 = .ok (.putfield 31, 3) := by decide +kernel
theorem dX6_init_51 : decode cX6_init 51 = .ok (.aload_n 0, 1) := by decide +kernel
theorem dX6_init_52 : decode cX6_init 52 = .ok (.bipush 8, 2) := by decide +kernel
theorem dX6_init_54 : decode cX6_init 54 = .ok (.newarray .int, 2) := by decide +kernel
theorem dX6_init_56 : decode cX6_init 56 = .ok (.putfield 34, 3) := by decide +kernel
theorem dX6_init_59 : decode cX6_init 59 = .ok (.aload_n 0, 1) := by decide +kernel
theorem dX6_init_60 : decode cX6_init 60 = .ok (.bipush 8, 2) := by decide +kernel
theorem dX6_init_62 : decode cX6_init 62 = .ok (.newarray .int, 2) := by decide +kernel
theorem dX6_init_64 : decode cX6_init 64 = .ok (.putfield 37, 3) := by decide +kernel
theorem dX6_init_67 : decode cX6_init 67 = .ok (.return_, 1) := by decide +kernel
theorem dX6_findBest_0 : decode cX6_findBest 0 = .ok (.aload_n 0, 1) := by decide +kernel
theorem dX6_findBest_1 : decode cX6_findBest 1 = .ok (.iload_n 2, 1) := by decide +kernel
theorem dX6_findBest_2 : decode cX6_findBest 2 = .ok (.bipush 8, 2) := by decide +kernel
theorem dX6_findBest_4 : decode cX6_findBest 4 = .ok (.invokestatic 40, 3) := by decide +kernel
theorem dX6_findBest_7 : decode cX6_findBest 7 = .ok (.putfield 15, 3) := by decide +kernel
theorem dX6_findBest_10 : decode cX6_findBest 10 = .ok (.aload_n 0, 1) := by decide +kernel
theorem dX6_findBest_11 : decode cX6_findBest 11 = .ok (.iload_n 3, 1) := by decide +kernel
theorem dX6_findBest_12 : decode cX6_findBest 12 = .ok (.putfield 19, 3) := by decide +kernel
theorem dX6_findBest_15 : decode cX6_findBest 15 = .ok (.aload_n 0, 1) := by decide +kernel
theorem dX6_findBest_16 : decode cX6_findBest 16 = .ok (.iconst (-1), 1) := by decide +kernel
theorem dX6_findBest_17 : decode cX6_findBest 17 = .ok (.putfield 22, 3) := by decide +kernel
theorem dX6_findBest_20 : decode cX6_findBest 20 = .ok (.aload_n 0, 1) := by decide +kernel
theorem dX6_findBest_21 : decode cX6_findBest 21 = .ok (.getfield 31, 3) := by decide +kernel
theorem dX6_findBest_24 : decode cX6_findBest 24 = .ok (.aload_n 0, 1) := by decide +kernel
theorem dX6_findBest_25 : decode cX6_findBest 25 = .ok (.getfield 15, 3) := by decide +kernel
theorem dX6_findBest_28 : decode cX6_findBest 28 = .ok (.iconst 0, 1) := by decide +kernel
theorem dX6_findBest_29 : decode cX6_findBest 29 = .ok (.iastore, 1) := by decide +kernel
theorem dX6_findBest_30 : decode cX6_findBest 30 = .ok (.aload_n 0, 1) := by decide +kernel
theorem dX6_findBest_31 : decode cX6_findBest 31 = .ok (.getfield 15, 3) := by decide +kernel
theorem dX6_findBest_34 : decode cX6_findBest 34 = .ok (.iconst 1, 1) := by decide +kernel
theorem dX6_findBest_35 : decode cX6_findBest 35 = .ok (.isub, 1) := by decide +kernel
theorem dX6_findBest_36 : decode cX6_findBest 36 = .ok (.istore 4, 2) := by decide +kernel
theorem dX6_findBest_38 : decode cX6_findBest 38 = .ok (.iload 4, 2) := by decide +kernel
theorem dX6_findBest_40 : decode cX6_findBest 40 = .ok (.ifCond .lt 47, 3) := by decide +kernel
theorem dX6_findBest_43 : decode cX6_findBest 43 = .ok (.aload_n 0, 1) := by decide +kernel
theorem dX6_findBest_44 : decode cX6_findBest 44 = .ok (.getfield 28, 3) := by decide +kernel
theorem dX6_findBest_47 : decode cX6_findBest 47 = .ok (.iload 4, 2) := by decide +kernel
theorem dX6_findBest_49 : decode cX6_findBest 49 = .ok (.aload_n 1, 1) := by decide +kernel
theorem dX6_findBest_50 : decode cX6_findBest 50 = .ok (.iload 4, 2) := by decide +kernel
theorem dX6_findBest_52 : decode cX6_findBest 52 = .ok (.aaload, 1) := by decide +kernel
theorem dX6_findBest_53 : decode cX6_findBest 53 = .ok (.invokevirtual 46, 3) := by decide +kernel
theorem dX6_findBest_56 : decode cX6_findBest 56 = .ok (.iastore, 1) := by decide +kernel
theorem dX6_findBest_57 : decode cX6_findBest 57 = .ok (.aload_n 0, 1) := by decide +kernel
theorem dX6_findBest_58 : decode cX6_findBest 58 = .ok (.getfield 31, 3) := by decide +kernel
theorem dX6_findBest_61 : decode cX6_findBest 61 = .ok (.iload 4, 2) := by decide +kernel
theorem dX6_findBest_63 : decode cX6_findBest 63 = .ok (.aload_n 0, 1) := by decide +kernel
theorem dX6_findBest_64 : decode cX6_findBest 64 = .ok (.getfield 31, 3) := by decide +kernel
theorem dX6_findBest_67 : decode cX6_findBest 67 = .ok (.iload 4, 2) := by decide +kernel
theorem dX6_findBest_69 : decode cX6_findBest 69 = .ok (.iconst 1, 1) := by decide +kernel
theorem dX6_findBest_70 : decode cX6_findBest 70 = .ok (.iadd, 1) := by decide +kernel
theorem dX6_findBest_71 : decode cX6_findBest 71 = .ok (.iaload, 1) := by decide +kernel
theorem dX6_findBest_72 : decode cX6_findBest 72 = .ok (.aload_n 1, 1) := by decide +kernel
theorem dX6_findBest_73 : decode cX6_findBest 73 = .ok (.iload 4, 2) := by decide +kernel
theorem dX6_findBest_75 : decode cX6_findBest 75 = .ok (.aaload, 1) := by decide +kernel
theorem dX6_findBest_76 : decode cX6_findBest 76 = .ok (.invokestatic 52, 3) := by decide +kernel
theorem dX6_findBest_79 : decode cX6_findBest 79 = .ok (.iadd, 1) := by decide +kernel
theorem dX6_findBest_80 : decode cX6_findBest 80 = .ok (.iastore, 1) := by decide +kernel
theorem dX6_findBest_81 : decode cX6_findBest 81 = .ok (.iinc 4 (-1), 3) := by decide +kernel
theorem dX6_findBest_84 : decode cX6_findBest 84 = .ok (.goto (-46), 3) := by decide +kernel
theorem dX6_findBest_87 : decode cX6_findBest 87 = .ok (.aload_n 0, 1) := by decide +kernel
theorem dX6_findBest_88 : decode cX6_findBest 88 = .ok (.aload_n 1, 1) := by decide +kernel
theorem dX6_findBest_89 : decode cX6_findBest 89 = .ok (.iconst 0, 1) := by decide +kernel
theorem dX6_findBest_90 : decode cX6_findBest 90 = .ok (.iconst 0, 1) := by decide +kernel
theorem dX6_findBest_91 : decode cX6_findBest 91 = .ok (.invokevirtual 56, 3) := by decide +kernel
theorem dX6_findBest_94 : decode cX6_findBest 94 = .ok (.aload_n 0, 1) := by decide +kernel
theorem dX6_findBest_95 : decode cX6_findBest 95 = .ok (.getfield 22, 3) := by decide +kernel
theorem dX6_findBest_98 : decode cX6_findBest 98 = .ok (.ireturn, 1) := by decide +kernel
theorem dX6_mostOf_0 : decode cX6_mostOf 0 = .ok (.iconst 0, 1) := by decide +kernel
theorem dX6_mostOf_1 : decode cX6_mostOf 1 = .ok (.istore_n 1, 1) := by decide +kernel
theorem dX6_mostOf_2 : decode cX6_mostOf 2 = .ok (.iconst 0, 1) := by decide +kernel
theorem dX6_mostOf_3 : decode cX6_mostOf 3 = .ok (.istore_n 2, 1) := by decide +kernel
theorem dX6_mostOf_4 : decode cX6_mostOf 4 = .ok (.iload_n 2, 1) := by decide +kernel
theorem dX6_mostOf_5 : decode cX6_mostOf 5 = .ok (.bipush 8, 2) := by decide +kernel
theorem dX6_mostOf_7 : decode cX6_mostOf 7 = .ok (.if_icmp .ge 20, 3) := by decide +kernel
theorem dX6_mostOf_10 : decode cX6_mostOf 10 = .ok (.iload_n 1, 1) := by decide +kernel
theorem dX6_mostOf_11 : decode cX6_mostOf 11 = .ok (.aload_n 0, 1) := by decide +kernel
theorem dX6_mostOf_12 : decode cX6_mostOf 12 = .ok (.getfield 60, 3) := by decide +kernel
theorem dX6_mostOf_15 : decode cX6_mostOf 15 = .ok (.iload_n 2, 1) := by decide +kernel
theorem dX6_mostOf_16 : decode cX6_mostOf 16 = .ok (.iaload, 1) := by decide +kernel
theorem dX6_mostOf_17 : decode cX6_mostOf 17 = .ok (.invokestatic 63, 3) := by decide +kernel
theorem dX6_mostOf_20 : decode cX6_mostOf 20 = .ok (.istore_n 1, 1) := by decide +kernel
theorem dX6_mostOf_21 : decode cX6_mostOf 21 = .ok (.iinc 2 1, 3) := by decide +kernel
theorem dX6_mostOf_24 : decode cX6_mostOf 24 = .ok (.goto (-20), 3) := by decide +kernel
theorem dX6_mostOf_27 : decode cX6_mostOf 27 = .ok (.iload_n 1, 1) := by decide +kernel
theorem dX6_mostOf_28 : decode cX6_mostOf 28 = .ok (.ireturn, 1) := by decide +kernel
theorem dX6_search_0 : decode cX6_search 0 = .ok (.iload_n 3, 1) := by decide +kernel
theorem dX6_search_1 : decode cX6_search 1 = .ok (.aload_n 0, 1) := by decide +kernel
theorem dX6_search_2 : decode cX6_search 2 = .ok (.getfield 31, 3) := by decide +kernel
theorem dX6_search_5 : decode cX6_search 5 = .ok (.iload_n 2, 1) := by decide +kernel
theorem dX6_search_6 : decode cX6_search 6 = .ok (.iaload, 1) := by decide +kernel
theorem dX6_search_7 : decode cX6_search 7 = .ok (.iadd, 1) := by decide +kernel
theorem dX6_search_8 : decode cX6_search 8 = .ok (.aload_n 0, 1) := by decide +kernel
theorem dX6_search_9 : decode cX6_search 9 = .ok (.getfield 22, 3) := by decide +kernel
theorem dX6_search_12 : decode cX6_search 12 = .ok (.if_icmp .gt 4, 3) := by decide +kernel
theorem dX6_search_15 : decode cX6_search 15 = .ok (.return_, 1) := by decide +kernel
theorem dX6_search_16 : decode cX6_search 16 = .ok (.iload_n 2, 1) := by decide +kernel
theorem dX6_search_17 : decode cX6_search 17 = .ok (.aload_n 0, 1) := by decide +kernel
theorem dX6_search_18 : decode cX6_search 18 = .ok (.getfield 15, 3) := by decide +kernel
theorem dX6_search_21 : decode cX6_search 21 = .ok (.if_icmp .lt 26, 3) := by decide +kernel
theorem dX6_search_24 : decode cX6_search 24 = .ok (.aload_n 0, 1) := by decide +kernel
theorem dX6_search_25 : decode cX6_search 25 = .ok (.iload_n 3, 1) := by decide +kernel
theorem dX6_search_26 : decode cX6_search 26 = .ok (.putfield 22, 3) := by decide +kernel
theorem dX6_search_29 : decode cX6_search 29 = .ok (.aload_n 0, 1) := by decide +kernel
theorem dX6_search_30 : decode cX6_search 30 = .ok (.getfield 25, 3) := by decide +kernel
theorem dX6_search_33 : decode cX6_search 33 = .ok (.iconst 0, 1) := by decide +kernel
theorem dX6_search_34 : decode cX6_search 34 = .ok (.aload_n 0, 1) := by decide +kernel
theorem dX6_search_35 : decode cX6_search 35 = .ok (.getfield 9, 3) := by decide +kernel
theorem dX6_search_38 : decode cX6_search 38 = .ok (.iconst 0, 1) := by decide +kernel
theorem dX6_search_39 : decode cX6_search 39 = .ok (.aload_n 0, 1) := by decide +kernel
theorem dX6_search_40 : decode cX6_search 40 = .ok (.getfield 15, 3) := by decide +kernel
theorem dX6_search_43 : decode cX6_search 43 = .ok (.invokestatic 66, 3) := by decide +kernel
theorem dX6_search_46 : decode cX6_search 46 = .ok (.return_, 1) := by decide +kernel
theorem dX6_search_47 : decode cX6_search 47 = .ok (.aload_n 1, 1) := by decide +kernel
theorem dX6_search_48 : decode cX6_search 48 = .ok (.iload_n 2, 1) := by decide +kernel
theorem dX6_search_49 : decode cX6_search 49 = .ok (.aaload, 1) := by decide +kernel
theorem dX6_search_50 : decode cX6_search 50 = .ok (.astore 4, 2) := by decide +kernel
theorem dX6_search_52 : decode cX6_search 52 = .ok (.aload 4, 2) := by decide +kernel
theorem dX6_search_54 : decode cX6_search 54 = .ok (.getfield 72, 3) := by decide +kernel
theorem dX6_search_57 : decode cX6_search 57 = .ok (.iconst 3, 1) := by decide +kernel
theorem dX6_search_58 : decode cX6_search 58 = .ok (.invokestatic 75, 3) := by decide +kernel
theorem dX6_search_61 : decode cX6_search 61 = .ok (.istore 5, 2) := by decide +kernel
theorem dX6_search_63 : decode cX6_search 63 = .ok (.iconst 0, 1) := by decide +kernel
theorem dX6_search_64 : decode cX6_search 64 = .ok (.istore 6, 2) := by decide +kernel
theorem dX6_search_66 : decode cX6_search 66 = .ok (.iload 6, 2) := by decide +kernel
theorem dX6_search_68 : decode cX6_search 68 = .ok (.bipush 8, 2) := by decide +kernel
theorem dX6_search_70 : decode cX6_search 70 = .ok (.if_icmp .ge 103, 3) := by decide +kernel
theorem dX6_search_73 : decode cX6_search 73 = .ok (.iload 5, 2) := by decide +kernel
theorem dX6_search_75 : decode cX6_search 75 = .ok (.ifCond .eq 10, 3) := by decide +kernel
theorem dX6_search_78 : decode cX6_search 78 = .ok (.iload 6, 2) := by decide +kernel
theorem dX6_search_80 : decode cX6_search 80 = .ok (.iconst 4, 1) := by decide +kernel
theorem dX6_search_81 : decode cX6_search 81 = .ok (.irem, 1) := by decide +kernel
theorem dX6_search_82 : decode cX6_search 82 = .ok (.ifCond .ne 85, 3) := by decide +kernel
theorem dX6_search_85 : decode cX6_search 85 = .ok (.aload_n 0, 1) := by decide +kernel
theorem dX6_search_86 : decode cX6_search 86 = .ok (.iload 6, 2) := by decide +kernel
theorem dX6_search_88 : decode cX6_search 88 = .ok (.aload 4, 2) := by decide +kernel
theorem dX6_search_90 : decode cX6_search 90 = .ok (.getfield 79, 3) := by decide +kernel
theorem dX6_search_93 : decode cX6_search 93 = .ok (.aload_n 0, 1) := by decide +kernel
theorem dX6_search_94 : decode cX6_search 94 = .ok (.getfield 28, 3) := by decide +kernel
theorem dX6_search_97 : decode cX6_search 97 = .ok (.iload_n 2, 1) := by decide +kernel
theorem dX6_search_98 : decode cX6_search 98 = .ok (.iaload, 1) := by decide +kernel
theorem dX6_search_99 : decode cX6_search 99 = .ok (.invokevirtual 82, 3) := by decide +kernel
theorem dX6_search_102 : decode cX6_search 102 = .ok (.ifCond .eq 65, 3) := by decide +kernel
theorem dX6_search_105 : decode cX6_search 105 = .ok (.aload_n 0, 1) := by decide +kernel
theorem dX6_search_106 : decode cX6_search 106 = .ok (.getfield 25, 3) := by decide +kernel
theorem dX6_search_109 : decode cX6_search 109 = .ok (.iload_n 2, 1) := by decide +kernel
theorem dX6_search_110 : decode cX6_search 110 = .ok (.iload 6, 2) := by decide +kernel
theorem dX6_search_112 : decode cX6_search 112 = .ok (.iastore, 1) := by decide +kernel
theorem dX6_search_113 : decode cX6_search 113 = .ok (.aload_n 0, 1) := by decide +kernel
theorem dX6_search_114 : decode cX6_search 114 = .ok (.iload 6, 2) := by decide +kernel
theorem dX6_search_116 : decode cX6_search 116 = .ok (.aload 4, 2) := by decide +kernel
theorem dX6_search_118 : decode cX6_search 118 = .ok (.getfield 79, 3) := by decide +kernel
theorem dX6_search_121 : decode cX6_search 121 = .ok (.aload_n 0, 1) := by decide +kernel
theorem dX6_search_122 : decode cX6_search 122 = .ok (.getfield 28, 3) := by decide +kernel
theorem dX6_search_125 : decode cX6_search 125 = .ok (.iload_n 2, 1) := by decide +kernel
theorem dX6_search_126 : decode cX6_search 126 = .ok (.iaload, 1) := by decide +kernel
theorem dX6_search_127 : decode cX6_search 127 = .ok (.iconst 1, 1) := by decide +kernel
theorem dX6_search_128 : decode cX6_search 128 = .ok (.invokevirtual 86, 3) := by decide +kernel
theorem dX6_search_131 : decode cX6_search 131 = .ok (.aload_n 0, 1) := by decide +kernel
theorem dX6_search_132 : decode cX6_search 132 = .ok (.aload_n 1, 1) := by decide +kernel
theorem dX6_search_133 : decode cX6_search 133 = .ok (.iload_n 2, 1) := by decide +kernel
theorem dX6_search_134 : decode cX6_search 134 = .ok (.iconst 1, 1) := by decide +kernel
theorem dX6_search_135 : decode cX6_search 135 = .ok (.iadd, 1) := by decide +kernel
theorem dX6_search_136 : decode cX6_search 136 = .ok (.iload_n 3, 1) := by decide +kernel
theorem dX6_search_137 : decode cX6_search 137 = .ok (.aload 4, 2) := by decide +kernel
theorem dX6_search_139 : decode cX6_search 139 = .ok (.getfield 60, 3) := by decide +kernel
theorem dX6_search_142 : decode cX6_search 142 = .ok (.iload 6, 2) := by decide +kernel
theorem dX6_search_144 : decode cX6_search 144 = .ok (.iaload, 1) := by decide +kernel
theorem dX6_search_145 : decode cX6_search 145 = .ok (.iadd, 1) := by decide +kernel
theorem dX6_search_146 : decode cX6_search 146 = .ok (.invokevirtual 56, 3) := by decide +kernel
theorem dX6_search_149 : decode cX6_search 149 = .ok (.aload_n 0, 1) := by decide +kernel
theorem dX6_search_150 : decode cX6_search 150 = .ok (.iload 6, 2) := by decide +kernel
theorem dX6_search_152 : decode cX6_search 152 = .ok (.aload 4, 2) := by decide +kernel
theorem dX6_search_154 : decode cX6_search 154 = .ok (.getfield 79, 3) := by decide +kernel
theorem dX6_search_157 : decode cX6_search 157 = .ok (.aload_n 0, 1) := by decide +kernel
theorem dX6_search_158 : decode cX6_search 158 = .ok (.getfield 28, 3) := by decide +kernel
theorem dX6_search_161 : decode cX6_search 161 = .ok (.iload_n 2, 1) := by decide +kernel
theorem dX6_search_162 : decode cX6_search 162 = .ok (.iaload, 1) := by decide +kernel
theorem dX6_search_163 : decode cX6_search 163 = .ok (.iconst (-1), 1) := by decide +kernel
theorem dX6_search_164 : decode cX6_search 164 = .ok (.invokevirtual 86, 3) := by decide +kernel
theorem dX6_search_167 : decode cX6_search 167 = .ok (.iinc 6 1, 3) := by decide +kernel
theorem dX6_search_170 : decode cX6_search 170 = .ok (.goto (-104), 3) := by decide +kernel
theorem dX6_search_173 : decode cX6_search 173 = .ok (.aload_n 0, 1) := by decide +kernel
theorem dX6_search_174 : decode cX6_search 174 = .ok (.getfield 25, 3) := by decide +kernel
theorem dX6_search_177 : decode cX6_search 177 = .ok (.iload_n 2, 1) := by decide +kernel
theorem dX6_search_178 : decode cX6_search 178 = .ok (.iconst (-1), 1) := by decide +kernel
theorem dX6_search_179 : decode cX6_search 179 = .ok (.iastore, 1) := by decide +kernel
theorem dX6_search_180 : decode cX6_search 180 = .ok (.aload_n 0, 1) := by decide +kernel
theorem dX6_search_181 : decode cX6_search 181 = .ok (.aload_n 1, 1) := by decide +kernel
theorem dX6_search_182 : decode cX6_search 182 = .ok (.iload_n 2, 1) := by decide +kernel
theorem dX6_search_183 : decode cX6_search 183 = .ok (.iconst 1, 1) := by decide +kernel
theorem dX6_search_184 : decode cX6_search 184 = .ok (.iadd, 1) := by decide +kernel
theorem dX6_search_185 : decode cX6_search 185 = .ok (.iload_n 3, 1) := by decide +kernel
theorem dX6_search_186 : decode cX6_search 186 = .ok (.invokevirtual 56, 3) := by decide +kernel
theorem dX6_search_189 : decode cX6_search 189 = .ok (.return_, 1) := by decide +kernel
theorem dX6_isFree_0 : decode cX6_isFree 0 = .ok (.iload_n 1, 1) := by decide +kernel
theorem dX6_isFree_1 : decode cX6_isFree 1 = .ok (.istore 4, 2) := by decide +kernel
theorem dX6_isFree_3 : decode cX6_isFree 3 = .ok (.iload 4, 2) := by decide +kernel
theorem dX6_isFree_5 : decode cX6_isFree 5 = .ok (.iload_n 1, 1) := by decide +kernel
theorem dX6_isFree_6 : decode cX6_isFree 6 = .ok (.iload_n 2, 1) := by decide +kernel
theorem dX6_isFree_7 : decode cX6_isFree 7 = .ok (.iadd, 1) := by decide +kernel
theorem dX6_isFree_8 : decode cX6_isFree 8 = .ok (.if_icmp .ge 44, 3) := by decide +kernel
theorem dX6_isFree_11 : decode cX6_isFree 11 = .ok (.iload 4, 2) := by decide +kernel
theorem dX6_isFree_13 : decode cX6_isFree 13 = .ok (.bipush 8, 2) := by decide +kernel
theorem dX6_isFree_15 : decode cX6_isFree 15 = .ok (.if_icmp .ge 37, 3) := by decide +kernel
theorem dX6_isFree_18 : decode cX6_isFree 18 = .ok (.aload_n 0, 1) := by decide +kernel
theorem dX6_isFree_19 : decode cX6_isFree 19 = .ok (.getfield 34, 3) := by decide +kernel
theorem dX6_isFree_22 : decode cX6_isFree 22 = .ok (.iload 4, 2) := by decide +kernel
theorem dX6_isFree_24 : decode cX6_isFree 24 = .ok (.iaload, 1) := by decide +kernel
theorem dX6_isFree_25 : decode cX6_isFree 25 = .ok (.aload_n 0, 1) := by decide +kernel
theorem dX6_isFree_26 : decode cX6_isFree 26 = .ok (.getfield 19, 3) := by decide +kernel
theorem dX6_isFree_29 : decode cX6_isFree 29 = .ok (.if_icmp .ge 15, 3) := by decide +kernel
theorem dX6_isFree_32 : decode cX6_isFree 32 = .ok (.aload_n 0, 1) := by decide +kernel
theorem dX6_isFree_33 : decode cX6_isFree 33 = .ok (.getfield 37, 3) := by decide +kernel
theorem dX6_isFree_36 : decode cX6_isFree 36 = .ok (.iload 4, 2) := by decide +kernel
theorem dX6_isFree_38 : decode cX6_isFree 38 = .ok (.iaload, 1) := by decide +kernel
theorem dX6_isFree_39 : decode cX6_isFree 39 = .ok (.iload_n 3, 1) := by decide +kernel
theorem dX6_isFree_40 : decode cX6_isFree 40 = .ok (.iand, 1) := by decide +kernel
theorem dX6_isFree_41 : decode cX6_isFree 41 = .ok (.ifCond .eq 5, 3) := by decide +kernel
theorem dX6_isFree_44 : decode cX6_isFree 44 = .ok (.iconst 0, 1) := by decide +kernel
theorem dX6_isFree_45 : decode cX6_isFree 45 = .ok (.ireturn, 1) := by decide +kernel
theorem dX6_isFree_46 : decode cX6_isFree 46 = .ok (.iinc 4 1, 3) := by decide +kernel
theorem dX6_isFree_49 : decode cX6_isFree 49 = .ok (.goto (-46), 3) := by decide +kernel
theorem dX6_isFree_52 : decode cX6_isFree 52 = .ok (.iconst 1, 1) := by decide +kernel
theorem dX6_isFree_53 : decode cX6_isFree 53 = .ok (.ireturn, 1) := by decide +kernel
theorem dX6_use_0 : decode cX6_use 0 = .ok (.iload_n 1, 1) := by decide +kernel
theorem dX6_use_1 : decode cX6_use 1 = .ok (.istore 5, 2) := by decide +kernel
theorem dX6_use_3 : decode cX6_use 3 = .ok (.iload 5, 2) := by decide +kernel
theorem dX6_use_5 : decode cX6_use 5 = .ok (.iload_n 1, 1) := by decide +kernel
theorem dX6_use_6 : decode cX6_use 6 = .ok (.iload_n 2, 1) := by decide +kernel
theorem dX6_use_7 : decode cX6_use 7 = .ok (.iadd, 1) := by decide +kernel
theorem dX6_use_8 : decode cX6_use 8 = .ok (.if_icmp .ge 39, 3) := by decide +kernel
theorem dX6_use_11 : decode cX6_use 11 = .ok (.iload 5, 2) := by decide +kernel
theorem dX6_use_13 : decode cX6_use 13 = .ok (.bipush 8, 2) := by decide +kernel
theorem dX6_use_15 : decode cX6_use 15 = .ok (.if_icmp .ge 32, 3) := by decide +kernel
theorem dX6_use_18 : decode cX6_use 18 = .ok (.aload_n 0, 1) := by decide +kernel
theorem dX6_use_19 : decode cX6_use 19 = .ok (.getfield 34, 3) := by decide +kernel
theorem dX6_use_22 : decode cX6_use 22 = .ok (.iload 5, 2) := by decide +kernel
theorem dX6_use_24 : decode cX6_use 24 = .ok (.dup2, 1) := by decide +kernel
theorem dX6_use_25 : decode cX6_use 25 = .ok (.iaload, 1) := by decide +kernel
theorem dX6_use_26 : decode cX6_use 26 = .ok (.iload 4, 2) := by decide +kernel
theorem dX6_use_28 : decode cX6_use 28 = .ok (.iadd, 1) := by decide +kernel
theorem dX6_use_29 : decode cX6_use 29 = .ok (.iastore, 1) := by decide +kernel
theorem dX6_use_30 : decode cX6_use 30 = .ok (.aload_n 0, 1) := by decide +kernel
theorem dX6_use_31 : decode cX6_use 31 = .ok (.getfield 37, 3) := by decide +kernel
theorem dX6_use_34 : decode cX6_use 34 = .ok (.iload 5, 2) := by decide +kernel
theorem dX6_use_36 : decode cX6_use 36 = .ok (.dup2, 1) := by decide +kernel
theorem dX6_use_37 : decode cX6_use 37 = .ok (.iaload, 1) := by decide +kernel
theorem dX6_use_38 : decode cX6_use 38 = .ok (.iload_n 3, 1) := by decide +kernel
theorem dX6_use_39 : decode cX6_use 39 = .ok (.ixor, 1) := by decide +kernel
theorem dX6_use_40 : decode cX6_use 40 = .ok (.iastore, 1) := by decide +kernel
theorem dX6_use_41 : decode cX6_use 41 = .ok (.iinc 5 1, 3) := by decide +kernel
theorem dX6_use_44 : decode cX6_use 44 = .ok (.goto (-41), 3) := by decide +kernel
theorem dX6_use_47 : decode cX6_use 47 = .ok (.return_, 1) := by decide +kernel
theorem dX7_init_0 : decode cX7_init 0 = .ok (.aload_n 0, 1) := by decide +kernel
theorem dX7_init_1 : decode cX7_init 1 = .ok (.invokespecial 3, 3) := by decide +kernel
theorem dX7_init_4 : decode cX7_init 4 = .ok (.aload_n 0, 1) := by decide +kernel
theorem dX7_init_5 : decode cX7_init 5 = .ok (.bipush 8, 2) := by decide +kernel
theorem dX7_init_7 : decode cX7_init 7 = .ok (.newarray .int, 2) := by decide +kernel
theorem dX7_init_9 : decode cX7_init 9 = .ok (.putfield 9, 3) := by decide +kernel
theorem dX7_init_12 : decode cX7_init 12 = .ok (.aload_n 0, 1) := by decide +kernel
theorem dX7_init_13 : decode cX7_init 13 = .ok (.bipush 9, 2) := by decide +kernel
theorem dX7_init_15 : decode cX7_init 15 = .ok (.newarray .int, 2) := by decide +kernel
theorem dX7_init_17 : decode cX7_init 17 = .ok (.putfield 15, 3) := by decide +kernel
theorem dX7_init_20 : decode cX7_init 20 = .ok (.aload_n 0, 1) := by decide +kernel
theorem dX7_init_21 : decode cX7_init 21 = .ok (.iconst 0, 1) := by decide +kernel
theorem dX7_init_22 : decode cX7_init 22 = .ok (.putfield 18, 3) := by decide +kernel
theorem dX7_init_25 : decode cX7_init 25 = .ok (.aload_n 0, 1) := by decide +kernel
theorem dX7_init_26 : decode cX7_init 26 = .ok (.iconst 0, 1) := by decide +kernel
theorem dX7_init_27 : decode cX7_init 27 = .ok (.putfield 22, 3) := by decide +kernel
theorem dX7_init_30 : decode cX7_init 30 = .ok (.return_, 1) := by decide +kernel
theorem dX7_findBest_0 : decode cX7_findBest 0 = .ok (.aload_n 0, 1) := by decide +kernel
theorem dX7_findBest_1 : decode cX7_findBest 1 = .ok (.iload_n 2, 1) := by decide +kernel
theorem dX7_findBest_2 : decode cX7_findBest 2 = .ok (.putfield 18, 3) := by decide +kernel
theorem dX7_findBest_5 : decode cX7_findBest 5 = .ok (.aload_n 0, 1) := by decide +kernel
theorem dX7_findBest_6 : decode cX7_findBest 6 = .ok (.iconst (-1), 1) := by decide +kernel
theorem dX7_findBest_7 : decode cX7_findBest 7 = .ok (.putfield 22, 3) := by decide +kernel
theorem dX7_findBest_10 : decode cX7_findBest 10 = .ok (.aload_n 0, 1) := by decide +kernel
theorem dX7_findBest_11 : decode cX7_findBest 11 = .ok (.getfield 15, 3) := by decide +kernel
theorem dX7_findBest_14 : decode cX7_findBest 14 = .ok (.aload_n 1, 1) := by decide +kernel
theorem dX7_findBest_15 : decode cX7_findBest 15 = .ok (.getfield 25, 3) := by decide +kernel
theorem dX7_findBest_18 : decode cX7_findBest 18 = .ok (.iconst 0, 1) := by decide +kernel
theorem dX7_findBest_19 : decode cX7_findBest 19 = .ok (.iastore, 1) := by decide +kernel
theorem dX7_findBest_20 : decode cX7_findBest 20 = .ok (.aload_n 1, 1) := by decide +kernel
theorem dX7_findBest_21 : decode cX7_findBest 21 = .ok (.getfield 25, 3) := by decide +kernel
theorem dX7_findBest_24 : decode cX7_findBest 24 = .ok (.iconst 1, 1) := by decide +kernel
theorem dX7_findBest_25 : decode cX7_findBest 25 = .ok (.isub, 1) := by decide +kernel
theorem dX7_findBest_26 : decode cX7_findBest 26 = .ok (.istore_n 3, 1) := by decide +kernel
theorem dX7_findBest_27 : decode cX7_findBest 27 = .ok (.iload_n 3, 1) := by decide +kernel
theorem dX7_findBest_28 : decode cX7_findBest 28 = .ok (.ifCond .lt 33, 3) := by decide +kernel
theorem dX7_findBest_31 : decode cX7_findBest 31 = .ok (.aload_n 0, 1) := by decide +kernel
theorem dX7_findBest_32 : decode cX7_findBest 32 = .ok (.getfield 15, 3) := by decide +kernel
theorem dX7_findBest_35 : decode cX7_findBest 35 = .ok (.iload_n 3, 1) := by decide +kernel
theorem dX7_findBest_36 : decode cX7_findBest 36 = .ok (.aload_n 0, 1) := by decide +kernel
theorem dX7_findBest_37 : decode cX7_findBest 37 = .ok (.getfield 15, 3) := by decide +kernel
theorem dX7_findBest_40 : decode cX7_findBest 40 = .ok (.iload_n 3, 1) := by decide +kernel
theorem dX7_findBest_41 : decode cX7_findBest 41 = .ok (.iconst 1, 1) := by decide +kernel
theorem dX7_findBest_42 : decode cX7_findBest 42 = .ok (.iadd, 1) := by decide +kernel
theorem dX7_findBest_43 : decode cX7_findBest 43 = .ok (.iaload, 1) := by decide +kernel
theorem dX7_findBest_44 : decode cX7_findBest 44 = .ok (.aload_n 1, 1) := by decide +kernel
theorem dX7_findBest_45 : decode cX7_findBest 45 = .ok (.getfield 30, 3) := by decide +kernel
theorem dX7_findBest_48 : decode cX7_findBest 48 = .ok (.iload_n 3, 1) := by decide +kernel
theorem dX7_findBest_49 : decode cX7_findBest 49 = .ok (.aaload, 1) := by decide +kernel
theorem dX7_findBest_50 : decode cX7_findBest 50 = .ok (.invokestatic 34, 3) := by decide +kernel
theorem dX7_findBest_53 : decode cX7_findBest 53 = .ok (.iadd, 1) := by decide +kernel
theorem dX7_findBest_54 : decode cX7_findBest 54 = .ok (.iastore, 1) := by decide +kernel
theorem dX7_findBest_55 : decode cX7_findBest 55 = .ok (.iinc 3 (-1), 3) := by decide +kernel
theorem dX7_findBest_58 : decode cX7_findBest 58 = .ok (.goto (-31), 3) := by decide +kernel
theorem dX7_findBest_61 : decode cX7_findBest 61 = .ok (.aload_n 0, 1) := by decide +kernel
theorem dX7_findBest_62 : decode cX7_findBest 62 = .ok (.aload_n 1, 1) := by decide +kernel
theorem dX7_findBest_63 : decode cX7_findBest 63 = .ok (.iconst 0, 1) := by decide +kernel
theorem dX7_findBest_64 : decode cX7_findBest 64 = .ok (.iconst (-1), 1) := by decide +kernel
theorem dX7_findBest_65 : decode cX7_findBest 65 = .ok (.iconst 0, 1) := by decide +kernel
theorem dX7_findBest_66 : decode cX7_findBest 66 = .ok (.iconst 0, 1) := by decide +kernel
theorem dX7_findBest_67 : decode cX7_findBest 67 = .ok (.invokevirtual 38, 3) := by decide +kernel
theorem dX7_findBest_70 : decode cX7_findBest 70 = .ok (.aload_n 0, 1) := by decide +kernel
theorem dX7_findBest_71 : decode cX7_findBest 71 = .ok (.getfield 22, 3) := by decide +kernel
theorem dX7_findBest_74 : decode cX7_findBest 74 = .ok (.sipush 1000, 3) := by decide +kernel
theorem dX7_findBest_77 : decode cX7_findBest 77 = .ok (.iadd, 1) := by decide +kernel
theorem dX7_findBest_78 : decode cX7_findBest 78 = .ok (.iconst 1, 1) := by decide +kernel
theorem dX7_findBest_79 : decode cX7_findBest 79 = .ok (.isub, 1) := by decide +kernel
theorem dX7_findBest_80 : decode cX7_findBest 80 = .ok (.sipush 1000, 3) := by decide +kernel
theorem dX7_findBest_83 : decode cX7_findBest 83 = .ok (.idiv, 1) := by decide +kernel
theorem dX7_findBest_84 : decode cX7_findBest 84 = .ok (.ireturn, 1) := by decide +kernel
theorem dX7_valueOf_0 : decode cX7_valueOf 0 = .ok (.aload_n 0, 1) := by decide +kernel
theorem dX7_valueOf_1 : decode cX7_valueOf 1 = .ok (.getfield 42, 3) := by decide +kernel
theorem dX7_valueOf_4 : decode cX7_valueOf 4 = .ok (.iload_n 1, 1) := by decide +kernel
theorem dX7_valueOf_5 : decode cX7_valueOf 5 = .ok (.iaload, 1) := by decide +kernel
theorem dX7_valueOf_6 : decode cX7_valueOf 6 = .ok (.sipush 1000, 3) := by decide +kernel
theorem dX7_valueOf_9 : decode cX7_valueOf 9 = .ok (.imul, 1) := by decide +kernel
theorem dX7_valueOf_10 : decode cX7_valueOf 10 = .ok (.aload_n 0, 1) := by decide +kernel
theorem dX7_valueOf_11 : decode cX7_valueOf 11 = .ok (.getfield 47, 3) := by decide +kernel
theorem dX7_valueOf_14 : decode cX7_valueOf 14 = .ok (.iload_n 1, 1) := by decide +kernel
theorem dX7_valueOf_15 : decode cX7_valueOf 15 = .ok (.iaload, 1) := by decide +kernel
theorem dX7_valueOf_16 : decode cX7_valueOf 16 = .ok (.isub, 1) := by decide +kernel
theorem dX7_valueOf_17 : decode cX7_valueOf 17 = .ok (.ireturn, 1) := by decide +kernel
theorem dX7_mostOf_0 : decode cX7_mostOf 0 = .ok (.iconst 0, 1) := by decide +kernel
theorem dX7_mostOf_1 : decode cX7_mostOf 1 = .ok (.istore_n 1, 1) := by decide +kernel
theorem dX7_mostOf_2 : decode cX7_mostOf 2 = .ok (.iconst 0, 1) := by decide +kernel
theorem dX7_mostOf_3 : decode cX7_mostOf 3 = .ok (.istore_n 2, 1) := by decide +kernel
theorem dX7_mostOf_4 : decode cX7_mostOf 4 = .ok (.iload_n 2, 1) := by decide +kernel
theorem dX7_mostOf_5 : decode cX7_mostOf 5 = .ok (.aload_n 0, 1) := by decide +kernel
theorem dX7_mostOf_6 : decode cX7_mostOf 6 = .ok (.getfield 50, 3) := by decide +kernel
theorem dX7_mostOf_9 : decode cX7_mostOf 9 = .ok (.if_icmp .ge 19, 3) := by decide +kernel
theorem dX7_mostOf_12 : decode cX7_mostOf 12 = .ok (.iload_n 1, 1) := by decide +kernel
theorem dX7_mostOf_13 : decode cX7_mostOf 13 = .ok (.aload_n 0, 1) := by decide +kernel
theorem dX7_mostOf_14 : decode cX7_mostOf 14 = .ok (.iload_n 2, 1) := by decide +kernel
theorem dX7_mostOf_15 : decode cX7_mostOf 15 = .ok (.invokestatic 53, 3) := by decide +kernel
theorem dX7_mostOf_18 : decode cX7_mostOf 18 = .ok (.invokestatic 57, 3) := by decide +kernel
theorem dX7_mostOf_21 : decode cX7_mostOf 21 = .ok (.istore_n 1, 1) := by decide +kernel
theorem dX7_mostOf_22 : decode cX7_mostOf 22 = .ok (.iinc 2 1, 3) := by decide +kernel
theorem dX7_mostOf_25 : decode cX7_mostOf 25 = .ok (.goto (-21), 3) := by decide +kernel
theorem dX7_mostOf_28 : decode cX7_mostOf 28 = .ok (.iload_n 1, 1) := by decide +kernel
theorem dX7_mostOf_29 : decode cX7_mostOf 29 = .ok (.ireturn, 1) := by decide +kernel
theorem dX7_search_0 : decode cX7_search 0 = .ok (.iload 5, 2) := by decide +kernel
theorem dX7_search_2 : decode cX7_search 2 = .ok (.aload_n 0, 1) := by decide +kernel
theorem dX7_search_3 : decode cX7_search 3 = .ok (.getfield 15, 3) := by decide +kernel
theorem dX7_search_6 : decode cX7_search 6 = .ok (.iload_n 2, 1) := by decide +kernel
theorem dX7_search_7 : decode cX7_search 7 = .ok (.iaload, 1) := by decide +kernel
theorem dX7_search_8 : decode cX7_search 8 = .ok (.iadd, 1) := by decide +kernel
theorem dX7_search_9 : decode cX7_search 9 = .ok (.aload_n 0, 1) := by decide +kernel
theorem dX7_search_10 : decode cX7_search 10 = .ok (.getfield 22, 3) := by decide +kernel
theorem dX7_search_13 : decode cX7_search 13 = .ok (.if_icmp .gt 4, 3) := by decide +kernel
theorem dX7_search_16 : decode cX7_search 16 = .ok (.return_, 1) := by decide +kernel
theorem dX7_search_17 : decode cX7_search 17 = .ok (.iload_n 2, 1) := by decide +kernel
theorem dX7_search_18 : decode cX7_search 18 = .ok (.aload_n 1, 1) := by decide +kernel
theorem dX7_search_19 : decode cX7_search 19 = .ok (.getfield 25, 3) := by decide +kernel
theorem dX7_search_22 : decode cX7_search 22 = .ok (.if_icmp .lt 27, 3) := by decide +kernel
theorem dX7_search_25 : decode cX7_search 25 = .ok (.aload_n 0, 1) := by decide +kernel
theorem dX7_search_26 : decode cX7_search 26 = .ok (.iload 5, 2) := by decide +kernel
theorem dX7_search_28 : decode cX7_search 28 = .ok (.putfield 22, 3) := by decide +kernel
theorem dX7_search_31 : decode cX7_search 31 = .ok (.aload_n 0, 1) := by decide +kernel
theorem dX7_search_32 : decode cX7_search 32 = .ok (.getfield 9, 3) := by decide +kernel
theorem dX7_search_35 : decode cX7_search 35 = .ok (.iconst 0, 1) := by decide +kernel
theorem dX7_search_36 : decode cX7_search 36 = .ok (.aload_n 1, 1) := by decide +kernel
theorem dX7_search_37 : decode cX7_search 37 = .ok (.getfield 63, 3) := by decide +kernel
theorem dX7_search_40 : decode cX7_search 40 = .ok (.iconst 0, 1) := by decide +kernel
theorem dX7_search_41 : decode cX7_search 41 = .ok (.aload_n 1, 1) := by decide +kernel
theorem dX7_search_42 : decode cX7_search 42 = .ok (.getfield 25, 3) := by decide +kernel
theorem dX7_search_45 : decode cX7_search 45 = .ok (.invokestatic 66, 3) := by decide +kernel
theorem dX7_search_48 : decode cX7_search 48 = .ok (.return_, 1) := by decide +kernel
theorem dX7_search_49 : decode cX7_search 49 = .ok (.aload_n 1, 1) := by decide +kernel
theorem dX7_search_50 : decode cX7_search 50 = .ok (.getfield 30, 3) := by decide +kernel
theorem dX7_search_53 : decode cX7_search 53 = .ok (.iload_n 2, 1) := by decide +kernel
theorem dX7_search_54 : decode cX7_search 54 = .ok (.aaload, 1) := by decide +kernel
theorem dX7_search_55 : decode cX7_search 55 = .ok (.astore 6, 2) := by decide +kernel
theorem dX7_search_57 : decode cX7_search 57 = .ok (.iconst 0, 1) := by decide +kernel
theorem dX7_search_58 : decode cX7_search 58 = .ok (.istore 7, 2) := by decide +kernel
theorem dX7_search_60 : decode cX7_search 60 = .ok (.iload 7, 2) := by decide +kernel
theorem dX7_search_62 : decode cX7_search 62 = .ok (.aload 6, 2) := by decide +kernel
theorem dX7_search_64 : decode cX7_search 64 = .ok (.getfield 50, 3) := by decide +kernel
theorem dX7_search_67 : decode cX7_search 67 = .ok (.if_icmp .ge 102, 3) := by decide +kernel
theorem dX7_search_70 : decode cX7_search 70 = .ok (.iload_n 3, 1) := by decide +kernel
theorem dX7_search_71 : decode cX7_search 71 = .ok (.iconst (-1), 1) := by decide +kernel
theorem dX7_search_72 : decode cX7_search 72 = .ok (.if_icmp .eq 18, 3) := by decide +kernel
theorem dX7_search_75 : decode cX7_search 75 = .ok (.aload 6, 2) := by decide +kernel
theorem dX7_search_77 : decode cX7_search 77 = .ok (.getfield 72, 3) := by decide +kernel
theorem dX7_search_80 : decode cX7_search 80 = .ok (.iload 7, 2) := by decide +kernel
theorem dX7_search_82 : decode cX7_search 82 = .ok (.iaload, 1) := by decide +kernel
theorem dX7_search_83 : decode cX7_search 83 = .ok (.bipush 10, 2) := by decide +kernel
theorem dX7_search_85 : decode cX7_search 85 = .ok (.idiv, 1) := by decide +kernel
theorem dX7_search_86 : decode cX7_search 86 = .ok (.iload_n 3, 1) := by decide +kernel
theorem dX7_search_87 : decode cX7_search 87 = .ok (.if_icmp .ne 7, 3) := by decide +kernel
theorem dX7_search_90 : decode cX7_search 90 = .ok (.iconst 1, 1) := by decide +kernel
theorem dX7_search_91 : decode cX7_search 91 = .ok (.goto 4, 3) := by decide +kernel
theorem dX7_search_94 : decode cX7_search 94 = .ok (.iconst 0, 1) := by decide +kernel
theorem dX7_search_95 : decode cX7_search 95 = .ok (.istore 8, 2) := by decide +kernel
theorem dX7_search_97 : decode cX7_search 97 = .ok (.iload 4, 2) := by decide +kernel
theorem dX7_search_99 : decode cX7_search 99 = .ok (.aload 6, 2) := by decide +kernel
theorem dX7_search_101 : decode cX7_search 101 = .ok (.getfield 47, 3) := by decide +kernel
theorem dX7_search_104 : decode cX7_search 104 = .ok (.iload 7, 2) := by decide +kernel
theorem dX7_search_106 : decode cX7_search 106 = .ok (.iaload, 1) := by decide +kernel
theorem dX7_search_107 : decode cX7_search 107 = .ok (.iadd, 1) := by decide +kernel
theorem dX7_search_108 : decode cX7_search 108 = .ok (.istore 9, 2) := by decide +kernel
theorem dX7_search_110 : decode cX7_search 110 = .ok (.iload 8, 2) := by decide +kernel
theorem dX7_search_112 : decode cX7_search 112 = .ok (.ifCond .eq 51, 3) := by decide +kernel
theorem dX7_search_115 : decode cX7_search 115 = .ok (.iload 9, 2) := by decide +kernel
theorem dX7_search_117 : decode cX7_search 117 = .ok (.aload_n 0, 1) := by decide +kernel
theorem dX7_search_118 : decode cX7_search 118 = .ok (.getfield 18, 3) := by decide +kernel
theorem dX7_search_121 : decode cX7_search 121 = .ok (.if_icmp .gt 42, 3) := by decide +kernel
theorem dX7_search_124 : decode cX7_search 124 = .ok (.aload_n 0, 1) := by decide +kernel
theorem dX7_search_125 : decode cX7_search 125 = .ok (.getfield 9, 3) := by decide +kernel
theorem dX7_search_128 : decode cX7_search 128 = .ok (.iload_n 2, 1) := by decide +kernel
theorem dX7_search_129 : decode cX7_search 129 = .ok (.iload 7, 2) := by decide +kernel
theorem dX7_search_131 : decode cX7_search 131 = .ok (.iastore, 1) := by decide +kernel
theorem dX7_search_132 : decode cX7_search 132 = .ok (.aload_n 0, 1) := by decide +kernel
theorem dX7_search_133 : decode cX7_search 133 = .ok (.aload_n 1, 1) := by decide +kernel
theorem dX7_search_134 : decode cX7_search 134 = .ok (.iload_n 2, 1) := by decide +kernel
theorem dX7_search_135 : decode cX7_search 135 = .ok (.iconst 1, 1) := by decide +kernel
theorem dX7_search_136 : decode cX7_search 136 = .ok (.iadd, 1) := by decide +kernel
theorem dX7_search_137 : decode cX7_search 137 = .ok (.aload 6, 2) := by decide +kernel
theorem dX7_search_139 : decode cX7_search 139 = .ok (.getfield 72, 3) := by decide +kernel
theorem dX7_search_142 : decode cX7_search 142 = .ok (.iload 7, 2) := by decide +kernel
theorem dX7_search_144 : decode cX7_search 144 = .ok (.iaload, 1) := by decide +kernel
theorem dX7_search_145 : decode cX7_search 145 = .ok (.bipush 10, 2) := by decide +kernel
theorem dX7_search_147 : decode cX7_search 147 = .ok (.irem, 1) := by decide +kernel
theorem dX7_search_148 : decode cX7_search 148 = .ok (.iload 9, 2) := by decide +kernel
theorem dX7_search_150 : decode cX7_search 150 = .ok (.iload 5, 2) := by decide +kernel
theorem dX7_search_152 : decode cX7_search 152 = .ok (.aload 6, 2) := by decide +kernel
theorem dX7_search_154 : decode cX7_search 154 = .ok (.iload 7, 2) := by decide +kernel
theorem dX7_search_156 : decode cX7_search 156 = .ok (.invokestatic 53, 3) := by decide +kernel
theorem dX7_search_159 : decode cX7_search 159 = .ok (.iadd, 1) := by decide +kernel
theorem dX7_search_160 : decode cX7_search 160 = .ok (.invokevirtual 38, 3) := by decide +kernel
theorem dX7_search_163 : decode cX7_search 163 = .ok (.iinc 7 1, 3) := by decide +kernel
theorem dX7_search_166 : decode cX7_search 166 = .ok (.goto (-106), 3) := by decide +kernel
theorem dX7_search_169 : decode cX7_search 169 = .ok (.aload_n 0, 1) := by decide +kernel
theorem dX7_search_170 : decode cX7_search 170 = .ok (.getfield 9, 3) := by decide +kernel
theorem dX7_search_173 : decode cX7_search 173 = .ok (.iload_n 2, 1) := by decide +kernel
theorem dX7_search_174 : decode cX7_search 174 = .ok (.iconst (-1), 1) := by decide +kernel
theorem dX7_search_175 : decode cX7_search 175 = .ok (.iastore, 1) := by decide +kernel
theorem dX7_search_176 : decode cX7_search 176 = .ok (.aload_n 0, 1) := by decide +kernel
theorem dX7_search_177 : decode cX7_search 177 = .ok (.aload_n 1, 1) := by decide +kernel
theorem dX7_search_178 : decode cX7_search 178 = .ok (.iload_n 2, 1) := by decide +kernel
theorem dX7_search_179 : decode cX7_search 179 = .ok (.iconst 1, 1) := by decide +kernel
theorem dX7_search_180 : decode cX7_search 180 = .ok (.iadd, 1) := by decide +kernel
theorem dX7_search_181 : decode cX7_search 181 = .ok (.iload_n 3, 1) := by decide +kernel
theorem dX7_search_182 : decode cX7_search 182 = .ok (.iload 4, 2) := by decide +kernel
theorem dX7_search_184 : decode cX7_search 184 = .ok (.iload 5, 2) := by decide +kernel
theorem dX7_search_186 : decode cX7_search 186 = .ok (.invokevirtual 38, 3) := by decide +kernel
theorem dX7_search_189 : decode cX7_search 189 = .ok (.return_, 1) := by decide +kernel
theorem dX8_init_0 : decode cX8_init 0 = .ok (.aload_n 0, 1) := by decide +kernel
theorem dX8_init_1 : decode cX8_init 1 = .ok (.invokespecial 3, 3) := by decide +kernel
theorem dX8_init_4 : decode cX8_init 4 = .ok (.aload_n 0, 1) := by decide +kernel
theorem dX8_init_5 : decode cX8_init 5 = .ok (.iconst 0, 1) := by decide +kernel
theorem dX8_init_6 : decode cX8_init 6 = .ok (.putfield 9, 3) := by decide +kernel
theorem dX8_init_9 : decode cX8_init 9 = .ok (.aload_n 0, 1) := by decide +kernel
theorem dX8_init_10 : decode cX8_init 10 = .ok (.iconst 4, 1) := by decide +kernel
theorem dX8_init_11 : decode cX8_init 11 = .ok (.newarray .int, 2) := by decide +kernel
theorem dX8_init_13 : decode cX8_init 13 = .ok (.putfield 15, 3) := by decide +kernel
theorem dX8_init_16 : decode cX8_init 16 = .ok (.aload_n 0, 1) := by decide +kernel
theorem dX8_init_17 : decode cX8_init 17 = .ok (.iconst 0, 1) := by decide +kernel
theorem dX8_init_18 : decode cX8_init 18 = .ok (.putfield 19, 3) := by decide +kernel
theorem dX8_init_21 : decode cX8_init 21 = .ok (.aload_n 0, 1) := by decide +kernel
theorem dX8_init_22 : decode cX8_init 22 = .ok (.iconst 4, 1) := by decide +kernel
theorem dX8_init_23 : decode cX8_init 23 = .ok (.newarray .int, 2) := by decide +kernel
theorem dX8_init_25 : decode cX8_init 25 = .ok (.putfield 22, 3) := by decide +kernel
theorem dX8_init_28 : decode cX8_init 28 = .ok (.aload_n 0, 1) := by decide +kernel
theorem dX8_init_29 : decode cX8_init 29 = .ok (.iconst 4, 1) := by decide +kernel
theorem dX8_init_30 : decode cX8_init 30 = .ok (.newarray .int, 2) := by decide +kernel
theorem dX8_init_32 : decode cX8_init 32 = .ok (.putfield 25, 3) := by decide +kernel
theorem dX8_init_35 : decode cX8_init 35 = .ok (.aload_n 0, 1) := by decide +kernel
theorem dX8_init_36 : decode cX8_init 36 = .ok (.iconst 4, 1) := by decide +kernel
theorem dX8_init_37 : decode cX8_init 37 = .ok (.newarray .int, 2) := by decide +kernel
theorem dX8_init_39 : decode cX8_init 39 = .ok (.putfield 28, 3) := by decide +kernel
theorem dX8_init_42 : decode cX8_init 42 = .ok (.aload_n 0, 1) := by decide +kernel
theorem dX8_init_43 : decode cX8_init 43 = .ok (.iload_n 1, 1) := by decide +kernel
theorem dX8_init_44 : decode cX8_init 44 = .ok (.putfield 31, 3) := by decide +kernel
theorem dX8_init_47 : decode cX8_init 47 = .ok (.aload_n 0, 1) := by decide +kernel
theorem dX8_init_48 : decode cX8_init 48 = .ok (.iload_n 2, 1) := by decide +kernel
theorem dX8_init_49 : decode cX8_init 49 = .ok (.putfield 34, 3) := by decide +kernel
theorem dX8_init_52 : decode cX8_init 52 = .ok (.aload_n 0, 1) := by decide +kernel
theorem dX8_init_53 : decode cX8_init 53 = .ok (.iload_n 3, 1) := by decide +kernel
theorem dX8_init_54 : decode cX8_init 54 = .ok (.putfield 37, 3) := by decide +kernel
theorem dX8_init_57 : decode cX8_init 57 = .ok (.return_, 1) := by decide +kernel
theorem dX9_init_0 : decode cX9_init 0 = .ok (.aload_n 0, 1) := by decide +kernel
theorem dX9_init_1 : decode cX9_init 1 = .ok (.invokespecial 3, 3) := by decide +kernel
theorem dX9_init_4 : decode cX9_init 4 = .ok (.aload_n 0, 1) := by decide +kernel
theorem dX9_init_5 : decode cX9_init 5 = .ok (.bipush 60, 2) := by decide +kernel
theorem dX9_init_7 : decode cX9_init 7 = .ok (.newarray .long, 2) := by decide +kernel
theorem dX9_init_9 : decode cX9_init 9 = .ok (.putfield 9, 3) := by decide +kernel
theorem dX9_init_12 : decode cX9_init 12 = .ok (.aload_n 0, 1) := by decide +kernel
theorem dX9_init_13 : decode cX9_init 13 = .ok (.iconst (-1), 1) := by decide +kernel
theorem dX9_init_14 : decode cX9_init 14 = .ok (.putfield 15, 3) := by decide +kernel
theorem dX9_init_17 : decode cX9_init 17 = .ok (.aload_n 0, 1) := by decide +kernel
theorem dX9_init_18 : decode cX9_init 18 = .ok (.iconst 0, 1) := by decide +kernel
theorem dX9_init_19 : decode cX9_init 19 = .ok (.putfield 19, 3) := by decide +kernel
theorem dX9_init_22 : decode cX9_init 22 = .ok (.aload_n 0, 1) := by decide +kernel
theorem dX9_init_23 : decode cX9_init 23 = .ok (.iconst (-1), 1) := by decide +kernel
theorem dX9_init_24 : decode cX9_init 24 = .ok (.putfield 22, 3) := by decide +kernel
theorem dX9_init_27 : decode cX9_init 27 = .ok (.return_, 1) := by decide +kernel
theorem dX9_becomeRow_0 : decode cX9_becomeRow 0 = .ok (.aload_n 0, 1) := by decide +kernel
theorem dX9_becomeRow_1 : decode cX9_becomeRow 1 = .ok (.iload_n 1, 1) := by decide +kernel
theorem dX9_becomeRow_2 : decode cX9_becomeRow 2 = .ok (.putfield 15, 3) := by decide +kernel
theorem dX9_becomeRow_5 : decode cX9_becomeRow 5 = .ok (.aload_n 0, 1) := by decide +kernel
theorem dX9_becomeRow_6 : decode cX9_becomeRow 6 = .ok (.iload_n 2, 1) := by decide +kernel
theorem dX9_becomeRow_7 : decode cX9_becomeRow 7 = .ok (.putfield 19, 3) := by decide +kernel
theorem dX9_becomeRow_10 : decode cX9_becomeRow 10 = .ok (.aload_n 0, 1) := by decide +kernel
theorem dX9_becomeRow_11 : decode cX9_becomeRow 11 = .ok (.iconst (-1), 1) := by decide +kernel
theorem dX9_becomeRow_12 : decode cX9_becomeRow 12 = .ok (.putfield 22, 3) := by decide +kernel
theorem dX9_becomeRow_15 : decode cX9_becomeRow 15 = .ok (.iconst 0, 1) := by decide +kernel
theorem dX9_becomeRow_16 : decode cX9_becomeRow 16 = .ok (.istore_n 3, 1) := by decide +kernel
theorem dX9_becomeRow_17 : decode cX9_becomeRow 17 = .ok (.iload_n 3, 1) := by decide +kernel
theorem dX9_becomeRow_18 : decode cX9_becomeRow 18 = .ok (.bipush 60, 2) := by decide +kernel
theorem dX9_becomeRow_20 : decode cX9_becomeRow 20 = .ok (.if_icmp .ge 16, 3) := by decide +kernel
theorem dX9_becomeRow_23 : decode cX9_becomeRow 23 = .ok (.aload_n 0, 1) := by decide +kernel
theorem dX9_becomeRow_24 : decode cX9_becomeRow 24 = .ok (.getfield 9, 3) := by decide +kernel
theorem dX9_becomeRow_27 : decode cX9_becomeRow 27 = .ok (.iload_n 3, 1) := by decide +kernel
theorem dX9_becomeRow_28 : decode cX9_becomeRow 28 = .ok (.lconst 0, 1) := by decide +kernel
theorem dX9_becomeRow_29 : decode cX9_becomeRow 29 = .ok (.lastore, 1) := by decide +kernel
theorem dX9_becomeRow_30 : decode cX9_becomeRow 30 = .ok (.iinc 3 1, 3) := by decide +kernel
theorem dX9_becomeRow_33 : decode cX9_becomeRow 33 = .ok (.goto (-16), 3) := by decide +kernel
theorem dX9_becomeRow_36 : decode cX9_becomeRow 36 = .ok (.return_, 1) := by decide +kernel
theorem dX9_becomePicture_0 : decode cX9_becomePicture 0 = .ok (.aload_n 0, 1) := by decide +kernel
theorem dX9_becomePicture_1 : decode cX9_becomePicture 1 = .ok (.iconst (-1), 1) := by decide +kernel
theorem dX9_becomePicture_2 : decode cX9_becomePicture 2 = .ok (.putfield 15, 3) := by decide +kernel
theorem dX9_becomePicture_5 : decode cX9_becomePicture 5 = .ok (.aload_n 0, 1) := by decide +kernel
theorem dX9_becomePicture_6 : decode cX9_becomePicture 6 = .ok (.iconst 0, 1) := by decide +kernel
theorem dX9_becomePicture_7 : decode cX9_becomePicture 7 = .ok (.putfield 19, 3) := by decide +kernel
theorem dX9_becomePicture_10 : decode cX9_becomePicture 10 = .ok (.aload_n 0, 1) := by decide +kernel
theorem dX9_becomePicture_11 : decode cX9_becomePicture 11 = .ok (.iload_n 1, 1) := by decide +kernel
theorem dX9_becomePicture_12 : decode cX9_becomePicture 12 = .ok (.putfield 22, 3) := by decide +kernel
theorem dX9_becomePicture_15 : decode cX9_becomePicture 15 = .ok (.return_, 1) := by decide +kernel
theorem dX9_lackOfRow_0 : decode cX9_lackOfRow 0 = .ok (.aload_n 0, 1) := by decide +kernel
theorem dX9_lackOfRow_1 : decode cX9_lackOfRow 1 = .ok (.getfield 15, 3) := by decide +kernel
theorem dX9_lackOfRow_4 : decode cX9_lackOfRow 4 = .ok (.iconst (-1), 1) := by decide +kernel
theorem dX9_lackOfRow_5 : decode cX9_lackOfRow 5 = .ok (.if_icmp .eq 5, 3) := by decide +kernel
theorem dX9_lackOfRow_8 : decode cX9_lackOfRow 8 = .ok (.iconst 0, 1) := by decide +kernel
theorem dX9_lackOfRow_9 : decode cX9_lackOfRow 9 = .ok (.ireturn, 1) := by decide +kernel
theorem dX9_lackOfRow_10 : decode cX9_lackOfRow 10 = .ok (.aload_n 0, 1) := by decide +kernel
theorem dX9_lackOfRow_11 : decode cX9_lackOfRow 11 = .ok (.getfield 22, 3) := by decide +kernel
theorem dX9_lackOfRow_14 : decode cX9_lackOfRow 14 = .ok (.iconst (-1), 1) := by decide +kernel
theorem dX9_lackOfRow_15 : decode cX9_lackOfRow 15 = .ok (.if_icmp .eq 8, 3) := by decide +kernel
theorem dX9_lackOfRow_18 : decode cX9_lackOfRow 18 = .ok (.bipush (-2), 2) := by decide +kernel
theorem dX9_lackOfRow_20 : decode cX9_lackOfRow 20 = .ok (.goto 5, 3) := by decide +kernel
theorem dX9_lackOfRow_23 : decode cX9_lackOfRow 23 = .ok (.bipush (-3), 2) := by decide +kernel
theorem dX9_lackOfRow_25 : decode cX9_lackOfRow 25 = .ok (.ireturn, 1) := by decide +kernel
theorem dX9_hasSpan_0 : decode cX9_hasSpan 0 = .ok (.iload_n 1, 1) := by decide +kernel
theorem dX9_hasSpan_1 : decode cX9_hasSpan 1 = .ok (.ifCond .lt 21, 3) := by decide +kernel
theorem dX9_hasSpan_4 : decode cX9_hasSpan 4 = .ok (.iload_n 1, 1) := by decide +kernel
theorem dX9_hasSpan_5 : decode cX9_hasSpan 5 = .ok (.i2l, 1) := by decide +kernel
theorem dX9_hasSpan_6 : decode cX9_hasSpan 6 = .ok (.iload_n 2, 1) := by decide +kernel
theorem dX9_hasSpan_7 : decode cX9_hasSpan 7 = .ok (.i2l, 1) := by decide +kernel
theorem dX9_hasSpan_8 : decode cX9_hasSpan 8 = .ok (.ladd, 1) := by decide +kernel
theorem dX9_hasSpan_9 : decode cX9_hasSpan 9 = .ok (.aload_n 0, 1) := by decide +kernel
theorem dX9_hasSpan_10 : decode cX9_hasSpan 10 = .ok (.getfield 19, 3) := by decide +kernel
theorem dX9_hasSpan_13 : decode cX9_hasSpan 13 = .ok (.i2l, 1) := by decide +kernel
theorem dX9_hasSpan_14 : decode cX9_hasSpan 14 = .ok (.lcmp, 1) := by decide +kernel
theorem dX9_hasSpan_15 : decode cX9_hasSpan 15 = .ok (.ifCond .gt 7, 3) := by decide +kernel
theorem dX9_hasSpan_18 : decode cX9_hasSpan 18 = .ok (.iconst 1, 1) := by decide +kernel
theorem dX9_hasSpan_19 : decode cX9_hasSpan 19 = .ok (.goto 4, 3) := by decide +kernel
theorem dX9_hasSpan_22 : decode cX9_hasSpan 22 = .ok (.iconst 0, 1) := by decide +kernel
theorem dX9_hasSpan_23 : decode cX9_hasSpan 23 = .ok (.ireturn, 1) := by decide +kernel
theorem dX9_lowestBits_0 : decode cX9_lowestBits 0 = .ok (.aload_n 0, 1) := by decide +kernel
theorem dX9_lowestBits_1 : decode cX9_lowestBits 1 = .ok (.getfield 15, 3) := by decide +kernel
theorem dX9_lowestBits_4 : decode cX9_lowestBits 4 = .ok (.tableswitch 42 0 2 #[28, 33, 38], 28) := by decide +kernel
theorem dX9_lowestBits_32 : decode cX9_lowestBits 32 = .ok (.lload_n 1, 1) := by decide +kernel
theorem dX9_lowestBits_33 : decode cX9_lowestBits 33 = .ok (.l2i, 1) := by decide +kernel
theorem dX9_lowestBits_34 : decode cX9_lowestBits 34 = .ok (.i2b, 1) := by decide +kernel
theorem dX9_lowestBits_35 : decode cX9_lowestBits 35 = .ok (.i2l, 1) := by decide +kernel
theorem dX9_lowestBits_36 : decode cX9_lowestBits 36 = .ok (.lreturn, 1) := by decide +kernel
theorem dX9_lowestBits_37 : decode cX9_lowestBits 37 = .ok (.lload_n 1, 1) := by decide +kernel
theorem dX9_lowestBits_38 : decode cX9_lowestBits 38 = .ok (.l2i, 1) := by decide +kernel
theorem dX9_lowestBits_39 : decode cX9_lowestBits 39 = .ok (.i2s, 1) := by decide +kernel
theorem dX9_lowestBits_40 : decode cX9_lowestBits 40 = .ok (.i2l, 1) := by decide +kernel
theorem dX9_lowestBits_41 : decode cX9_lowestBits 41 = .ok (.lreturn, 1) := by decide +kernel
theorem dX9_lowestBits_42 : decode cX9_lowestBits 42 = .ok (.lload_n 1, 1) := by decide +kernel
theorem dX9_lowestBits_43 : decode cX9_lowestBits 43 = .ok (.l2i, 1) := by decide +kernel
theorem dX9_lowestBits_44 : decode cX9_lowestBits 44 = .ok (.i2l, 1) := by decide +kernel
theorem dX9_lowestBits_45 : decode cX9_lowestBits 45 = .ok (.lreturn, 1) := by decide +kernel
theorem dX9_lowestBits_46 : decode cX9_lowestBits 46 = .ok (.lload_n 1, 1) := by decide +kernel
theorem dX9_lowestBits_47 : decode cX9_lowestBits 47 = .ok (.lreturn, 1) := by decide +kernel
theorem dX10_init_0 : decode cX10_init 0 = .ok (.aload_n 0, 1) := by decide +kernel
theorem dX10_init_1 : decode cX10_init 1 = .ok (.invokespecial 3, 3) := by decide +kernel
theorem dX10_init_4 : decode cX10_init 4 = .ok (.aload_n 0, 1) := by decide +kernel
theorem dX10_init_5 : decode cX10_init 5 = .ok (.bipush 6, 2) := by decide +kernel
theorem dX10_init_7 : decode cX10_init 7 = .ok (.newarray .int, 2) := by decide +kernel
theorem dX10_init_9 : decode cX10_init 9 = .ok (.putfield 9, 3) := by decide +kernel
theorem dX10_init_12 : decode cX10_init 12 = .ok (.aload_n 0, 1) := by decide +kernel
theorem dX10_init_13 : decode cX10_init 13 = .ok (.iconst (-1), 1) := by decide +kernel
theorem dX10_init_14 : decode cX10_init 14 = .ok (.putfield 15, 3) := by decide +kernel
theorem dX10_init_17 : decode cX10_init 17 = .ok (.aload_n 0, 1) := by decide +kernel
theorem dX10_init_18 : decode cX10_init 18 = .ok (.iconst (-1), 1) := by decide +kernel
theorem dX10_init_19 : decode cX10_init 19 = .ok (.putfield 19, 3) := by decide +kernel
theorem dX10_init_22 : decode cX10_init 22 = .ok (.return_, 1) := by decide +kernel
theorem dX10_read_0 : decode cX10_read 0 = .ok (.aload_n 0, 1) := by decide +kernel
theorem dX10_read_1 : decode cX10_read 1 = .ok (.iconst (-1), 1) := by decide +kernel
theorem dX10_read_2 : decode cX10_read 2 = .ok (.putfield 15, 3) := by decide +kernel
theorem dX10_read_5 : decode cX10_read 5 = .ok (.iconst 0, 1) := by decide +kernel
theorem dX10_read_6 : decode cX10_read 6 = .ok (.istore_n 2, 1) := by decide +kernel
theorem dX10_read_7 : decode cX10_read 7 = .ok (.iload_n 2, 1) := by decide +kernel
theorem dX10_read_8 : decode cX10_read 8 = .ok (.bipush 6, 2) := by decide +kernel
theorem dX10_read_10 : decode cX10_read 10 = .ok (.if_icmp .ge 16, 3) := by decide +kernel
theorem dX10_read_13 : decode cX10_read 13 = .ok (.aload_n 0, 1) := by decide +kernel
theorem dX10_read_14 : decode cX10_read 14 = .ok (.getfield 9, 3) := by decide +kernel
theorem dX10_read_17 : decode cX10_read 17 = .ok (.iload_n 2, 1) := by decide +kernel
theorem dX10_read_18 : decode cX10_read 18 = .ok (.iconst (-1), 1) := by decide +kernel
theorem dX10_read_19 : decode cX10_read 19 = .ok (.iastore, 1) := by decide +kernel
theorem dX10_read_20 : decode cX10_read 20 = .ok (.iinc 2 1, 3) := by decide +kernel
theorem dX10_read_23 : decode cX10_read 23 = .ok (.goto (-16), 3) := by decide +kernel
theorem dX10_read_26 : decode cX10_read 26 = .ok (.aload_n 0, 1) := by decide +kernel
theorem dX10_read_27 : decode cX10_read 27 = .ok (.aload_n 0, 1) := by decide +kernel
theorem dX10_read_28 : decode cX10_read 28 = .ok (.aload_n 1, 1) := by decide +kernel
theorem dX10_read_29 : decode cX10_read 29 = .ok (.invokevirtual 22, 3) := by decide +kernel
theorem dX10_read_32 : decode cX10_read 32 = .ok (.putfield 19, 3) := by decide +kernel
theorem dX10_read_35 : decode cX10_read 35 = .ok (.return_, 1) := by decide +kernel
theorem dX10_findFault_0 : decode cX10_findFault 0 = .ok (.iconst 0, 1) := by decide +kernel
theorem dX10_findFault_1 : decode cX10_findFault 1 = .ok (.istore_n 2, 1) := by decide +kernel
theorem dX10_findFault_2 : decode cX10_findFault 2 = .ok (.iload_n 2, 1) := by decide +kernel
theorem dX10_findFault_3 : decode cX10_findFault 3 = .ok (.aload_n 1, 1) := by decide +kernel
theorem dX10_findFault_4 : decode cX10_findFault 4 = .ok (.getfield 26, 3) := by decide +kernel
theorem dX10_findFault_7 : decode cX10_findFault 7 = .ok (.if_icmp .ge 65, 3) := by decide +kernel
theorem dX10_findFault_10 : decode cX10_findFault 10 = .ok (.aload_n 1, 1) := by decide +kernel
theorem dX10_findFault_11 : decode cX10_findFault 11 = .ok (.getfield 31, 3) := by decide +kernel
theorem dX10_findFault_14 : decode cX10_findFault 14 = .ok (.iload_n 2, 1) := by decide +kernel
theorem dX10_findFault_15 : decode cX10_findFault 15 = .ok (.laload, 1) := by decide +kernel
theorem dX10_findFault_16 : decode cX10_findFault 16 = .ok (.l2i, 1) := by decide +kernel
theorem dX10_findFault_17 : decode cX10_findFault 17 = .ok (.istore_n 3, 1) := by decide +kernel
theorem dX10_findFault_18 : decode cX10_findFault 18 = .ok (.iload_n 3, 1) := by decide +kernel
theorem dX10_findFault_19 : decode cX10_findFault 19 = .ok (.bipush 48, 2) := by decide +kernel
theorem dX10_findFault_21 : decode cX10_findFault 21 = .ok (.if_icmp .lt 13, 3) := by decide +kernel
theorem dX10_findFault_24 : decode cX10_findFault 24 = .ok (.iload_n 3, 1) := by decide +kernel
theorem dX10_findFault_25 : decode cX10_findFault 25 = .ok (.bipush 57, 2) := by decide +kernel
theorem dX10_findFault_27 : decode cX10_findFault 27 = .ok (.if_icmp .gt 7, 3) := by decide +kernel
theorem dX10_findFault_30 : decode cX10_findFault 30 = .ok (.iconst 1, 1) := by decide +kernel
theorem dX10_findFault_31 : decode cX10_findFault 31 = .ok (.goto 4, 3) := by decide +kernel
theorem dX10_findFault_34 : decode cX10_findFault 34 = .ok (.iconst 0, 1) := by decide +kernel
theorem dX10_findFault_35 : decode cX10_findFault 35 = .ok (.istore 4, 2) := by decide +kernel
theorem dX10_findFault_37 : decode cX10_findFault 37 = .ok (.iload 4, 2) := by decide +kernel
theorem dX10_findFault_39 : decode cX10_findFault 39 = .ok (.ifCond .eq 17, 3) := by decide +kernel
theorem dX10_findFault_42 : decode cX10_findFault 42 = .ok (.aload_n 0, 1) := by decide +kernel
theorem dX10_findFault_43 : decode cX10_findFault 43 = .ok (.iload_n 3, 1) := by decide +kernel
theorem dX10_findFault_44 : decode cX10_findFault 44 = .ok (.bipush 48, 2) := by decide +kernel
theorem dX10_findFault_46 : decode cX10_findFault 46 = .ok (.isub, 1) := by decide +kernel
theorem dX10_findFault_47 : decode cX10_findFault 47 = .ok (.invokevirtual 35, 3) := by decide +kernel
theorem dX10_findFault_50 : decode cX10_findFault 50 = .ok (.ifCond .ne 16, 3) := by decide +kernel
theorem dX10_findFault_53 : decode cX10_findFault 53 = .ok (.goto 11, 3) := by decide +kernel
theorem dX10_findFault_56 : decode cX10_findFault 56 = .ok (.aload_n 0, 1) := by decide +kernel
theorem dX10_findFault_57 : decode cX10_findFault 57 = .ok (.iload_n 3, 1) := by decide +kernel
theorem dX10_findFault_58 : decode cX10_findFault 58 = .ok (.invokevirtual 39, 3) := by decide +kernel
theorem dX10_findFault_61 : decode cX10_findFault 61 = .ok (.ifCond .ne 5, 3) := by decide +kernel
theorem dX10_findFault_64 : decode cX10_findFault 64 = .ok (.iload_n 2, 1) := by decide +kernel
theorem dX10_findFault_65 : decode cX10_findFault 65 = .ok (.ireturn, 1) := by decide +kernel
theorem dX10_findFault_66 : decode cX10_findFault 66 = .ok (.iinc 2 1, 3) := by decide +kernel
theorem dX10_findFault_69 : decode cX10_findFault 69 = .ok (.goto (-67), 3) := by decide +kernel
theorem dX10_findFault_72 : decode cX10_findFault 72 = .ok (.aload_n 0, 1) := by decide +kernel
theorem dX10_findFault_73 : decode cX10_findFault 73 = .ok (.invokevirtual 42, 3) := by decide +kernel
theorem dX10_findFault_76 : decode cX10_findFault 76 = .ok (.ifCond .eq 7, 3) := by decide +kernel
theorem dX10_findFault_79 : decode cX10_findFault 79 = .ok (.iconst (-1), 1) := by decide +kernel
theorem dX10_findFault_80 : decode cX10_findFault 80 = .ok (.goto 7, 3) := by decide +kernel
theorem dX10_findFault_83 : decode cX10_findFault 83 = .ok (.aload_n 1, 1) := by decide +kernel
theorem dX10_findFault_84 : decode cX10_findFault 84 = .ok (.getfield 26, 3) := by decide +kernel
theorem dX10_findFault_87 : decode cX10_findFault 87 = .ok (.ireturn, 1) := by decide +kernel
theorem dX10_hasNumber_0 : decode cX10_hasNumber 0 = .ok (.aload_n 0, 1) := by decide +kernel
theorem dX10_hasNumber_1 : decode cX10_hasNumber 1 = .ok (.getfield 15, 3) := by decide +kernel
theorem dX10_hasNumber_4 : decode cX10_hasNumber 4 = .ok (.iconst (-1), 1) := by decide +kernel
theorem dX10_hasNumber_5 : decode cX10_hasNumber 5 = .ok (.if_icmp .eq 20, 3) := by decide +kernel
theorem dX10_hasNumber_8 : decode cX10_hasNumber 8 = .ok (.aload_n 0, 1) := by decide +kernel
theorem dX10_hasNumber_9 : decode cX10_hasNumber 9 = .ok (.getfield 9, 3) := by decide +kernel
theorem dX10_hasNumber_12 : decode cX10_hasNumber 12 = .ok (.aload_n 0, 1) := by decide +kernel
theorem dX10_hasNumber_13 : decode cX10_hasNumber 13 = .ok (.getfield 15, 3) := by decide +kernel
theorem dX10_hasNumber_16 : decode cX10_hasNumber 16 = .ok (.iaload, 1) := by decide +kernel
theorem dX10_hasNumber_17 : decode cX10_hasNumber 17 = .ok (.iconst (-1), 1) := by decide +kernel
theorem dX10_hasNumber_18 : decode cX10_hasNumber 18 = .ok (.if_icmp .eq 7, 3) := by decide +kernel
theorem dX10_hasNumber_21 : decode cX10_hasNumber 21 = .ok (.iconst 1, 1) := by decide +kernel
theorem dX10_hasNumber_22 : decode cX10_hasNumber 22 = .ok (.goto 4, 3) := by decide +kernel
theorem dX10_hasNumber_25 : decode cX10_hasNumber 25 = .ok (.iconst 0, 1) := by decide +kernel
theorem dX10_hasNumber_26 : decode cX10_hasNumber 26 = .ok (.ireturn, 1) := by decide +kernel
theorem dX10_addDigit_0 : decode cX10_addDigit 0 = .ok (.aload_n 0, 1) := by decide +kernel
theorem dX10_addDigit_1 : decode cX10_addDigit 1 = .ok (.getfield 15, 3) := by decide +kernel
theorem dX10_addDigit_4 : decode cX10_addDigit 4 = .ok (.iconst (-1), 1) := by decide +kernel
theorem dX10_addDigit_5 : decode cX10_addDigit 5 = .ok (.if_icmp .ne 5, 3) := by decide +kernel
theorem dX10_addDigit_8 : decode cX10_addDigit 8 = .ok (.iconst 0, 1) := by decide +kernel
theorem dX10_addDigit_9 : decode cX10_addDigit 9 = .ok (.ireturn, 1) := by decide +kernel
theorem dX10_addDigit_10 : decode cX10_addDigit 10 = .ok (.aload_n 0, 1) := by decide +kernel
theorem dX10_addDigit_11 : decode cX10_addDigit 11 = .ok (.getfield 9, 3) := by decide +kernel
theorem dX10_addDigit_14 : decode cX10_addDigit 14 = .ok (.aload_n 0, 1) := by decide +kernel
theorem dX10_addDigit_15 : decode cX10_addDigit 15 = .ok (.getfield 15, 3) := by decide +kernel
theorem dX10_addDigit_18 : decode cX10_addDigit 18 = .ok (.iaload, 1) := by decide +kernel
theorem dX10_addDigit_19 : decode cX10_addDigit 19 = .ok (.istore_n 2, 1) := by decide +kernel
theorem dX10_addDigit_20 : decode cX10_addDigit 20 = .ok (.iload_n 2, 1) := by decide +kernel
theorem dX10_addDigit_21 : decode cX10_addDigit 21 = .ok (.iconst (-1), 1) := by decide +kernel
theorem dX10_addDigit_22 : decode cX10_addDigit 22 = .ok (.if_icmp .ne 7, 3) := by decide +kernel
theorem dX10_addDigit_25 : decode cX10_addDigit 25 = .ok (.iload_n 1, 1) := by decide +kernel
theorem dX10_addDigit_26 : decode cX10_addDigit 26 = .ok (.goto 9, 3) := by decide +kernel
theorem dX10_addDigit_29 : decode cX10_addDigit 29 = .ok (.iload_n 2, 1) := by decide +kernel
theorem dX10_addDigit_30 : decode cX10_addDigit 30 = .ok (.bipush 10, 2) := by decide +kernel
theorem dX10_addDigit_32 : decode cX10_addDigit 32 = .ok (.imul, 1) := by decide +kernel
theorem dX10_addDigit_33 : decode cX10_addDigit 33 = .ok (.iload_n 1, 1) := by decide +kernel
theorem dX10_addDigit_34 : decode cX10_addDigit 34 = .ok (.iadd, 1) := by decide +kernel
theorem dX10_addDigit_35 : decode cX10_addDigit 35 = .ok (.istore_n 3, 1) := by decide +kernel
theorem dX10_addDigit_36 : decode cX10_addDigit 36 = .ok (.iload_n 2, 1) := by decide +kernel
theorem dX10_addDigit_37 : decode cX10_addDigit 37 = .ok (.ifCond .eq 27, 3) := by decide +kernel
theorem dX10_addDigit_40 : decode cX10_addDigit 40 = .ok (.iload_n 3, 1) := by decide +kernel
theorem dX10_addDigit_41 : decode cX10_addDigit 41 = .ok (.getstatic 46, 3) := by decide +kernel
theorem dX10_addDigit_44 : decode cX10_addDigit 44 = .ok (.aload_n 0, 1) := by decide +kernel
theorem dX10_addDigit_45 : decode cX10_addDigit 45 = .ok (.getfield 15, 3) := by decide +kernel
theorem dX10_addDigit_48 : decode cX10_addDigit 48 = .ok (.iaload, 1) := by decide +kernel
theorem dX10_addDigit_49 : decode cX10_addDigit 49 = .ok (.if_icmp .lt 15, 3) := by decide +kernel
theorem dX10_addDigit_52 : decode cX10_addDigit 52 = .ok (.iload_n 3, 1) := by decide +kernel
theorem dX10_addDigit_53 : decode cX10_addDigit 53 = .ok (.getstatic 49, 3) := by decide +kernel
theorem dX10_addDigit_56 : decode cX10_addDigit 56 = .ok (.aload_n 0, 1) := by decide +kernel
theorem dX10_addDigit_57 : decode cX10_addDigit 57 = .ok (.getfield 15, 3) := by decide +kernel
theorem dX10_addDigit_60 : decode cX10_addDigit 60 = .ok (.iaload, 1) := by decide +kernel
theorem dX10_addDigit_61 : decode cX10_addDigit 61 = .ok (.if_icmp .le 5, 3) := by decide +kernel
theorem dX10_addDigit_64 : decode cX10_addDigit 64 = .ok (.iconst 0, 1) := by decide +kernel
theorem dX10_addDigit_65 : decode cX10_addDigit 65 = .ok (.ireturn, 1) := by decide +kernel
theorem dX10_addDigit_66 : decode cX10_addDigit 66 = .ok (.aload_n 0, 1) := by decide +kernel
theorem dX10_addDigit_67 : decode cX10_addDigit 67 = .ok (.getfield 9, 3) := by decide +kernel
theorem dX10_addDigit_70 : decode cX10_addDigit 70 = .ok (.aload_n 0, 1) := by decide +kernel
theorem dX10_addDigit_71 : decode cX10_addDigit 71 = .ok (.getfield 15, 3) := by decide +kernel
theorem dX10_addDigit_74 : decode cX10_addDigit 74 = .ok (.iload_n 3, 1) := by decide +kernel
theorem dX10_addDigit_75 : decode cX10_addDigit 75 = .ok (.iastore, 1) := by decide +kernel
theorem dX10_addDigit_76 : decode cX10_addDigit 76 = .ok (.iconst 1, 1) := by decide +kernel
theorem dX10_addDigit_77 : decode cX10_addDigit 77 = .ok (.ireturn, 1) := by decide +kernel
theorem dX10_openClause_0 : decode cX10_openClause 0 = .ok (.aload_n 0, 1) := by decide +kernel
theorem dX10_openClause_1 : decode cX10_openClause 1 = .ok (.getfield 15, 3) := by decide +kernel
theorem dX10_openClause_4 : decode cX10_openClause 4 = .ok (.iconst (-1), 1) := by decide +kernel
theorem dX10_openClause_5 : decode cX10_openClause 5 = .ok (.if_icmp .eq 12, 3) := by decide +kernel
theorem dX10_openClause_8 : decode cX10_openClause 8 = .ok (.aload_n 0, 1) := by decide +kernel
theorem dX10_openClause_9 : decode cX10_openClause 9 = .ok (.invokevirtual 42, 3) := by decide +kernel
theorem dX10_openClause_12 : decode cX10_openClause 12 = .ok (.ifCond .ne 5, 3) := by decide +kernel
theorem dX10_openClause_15 : decode cX10_openClause 15 = .ok (.iconst 0, 1) := by decide +kernel
theorem dX10_openClause_16 : decode cX10_openClause 16 = .ok (.ireturn, 1) := by decide +kernel
theorem dX10_openClause_17 : decode cX10_openClause 17 = .ok (.iconst 0, 1) := by decide +kernel
theorem dX10_openClause_18 : decode cX10_openClause 18 = .ok (.istore_n 2, 1) := by decide +kernel
theorem dX10_openClause_19 : decode cX10_openClause 19 = .ok (.iload_n 2, 1) := by decide +kernel
theorem dX10_openClause_20 : decode cX10_openClause 20 = .ok (.bipush 6, 2) := by decide +kernel
theorem dX10_openClause_22 : decode cX10_openClause 22 = .ok (.if_icmp .ge 35, 3) := by decide +kernel
theorem dX10_openClause_25 : decode cX10_openClause 25 = .ok (.getstatic 52, 3) := by decide +kernel
theorem dX10_openClause_28 : decode cX10_openClause 28 = .ok (.iload_n 2, 1) := by decide +kernel
theorem dX10_openClause_29 : decode cX10_openClause 29 = .ok (.iaload, 1) := by decide +kernel
theorem dX10_openClause_30 : decode cX10_openClause 30 = .ok (.iload_n 1, 1) := by decide +kernel
theorem dX10_openClause_31 : decode cX10_openClause 31 = .ok (.if_icmp .ne 20, 3) := by decide +kernel
theorem dX10_openClause_34 : decode cX10_openClause 34 = .ok (.aload_n 0, 1) := by decide +kernel
theorem dX10_openClause_35 : decode cX10_openClause 35 = .ok (.getfield 9, 3) := by decide +kernel
theorem dX10_openClause_38 : decode cX10_openClause 38 = .ok (.iload_n 2, 1) := by decide +kernel
theorem dX10_openClause_39 : decode cX10_openClause 39 = .ok (.iaload, 1) := by decide +kernel
theorem dX10_openClause_40 : decode cX10_openClause 40 = .ok (.iconst (-1), 1) := by decide +kernel
theorem dX10_openClause_41 : decode cX10_openClause 41 = .ok (.if_icmp .ne 10, 3) := by decide +kernel
theorem dX10_openClause_44 : decode cX10_openClause 44 = .ok (.aload_n 0, 1) := by decide +kernel
theorem dX10_openClause_45 : decode cX10_openClause 45 = .ok (.iload_n 2, 1) := by decide +kernel
theorem dX10_openClause_46 : decode cX10_openClause 46 = .ok (.putfield 15, 3) := by decide +kernel
theorem dX10_openClause_49 : decode cX10_openClause 49 = .ok (.iconst 1, 1) := by decide +kernel
theorem dX10_openClause_50 : decode cX10_openClause 50 = .ok (.ireturn, 1) := by decide +kernel
theorem dX10_openClause_51 : decode cX10_openClause 51 = .ok (.iinc 2 1, 3) := by decide +kernel
theorem dX10_openClause_54 : decode cX10_openClause 54 = .ok (.goto (-35), 3) := by decide +kernel
theorem dX10_openClause_57 : decode cX10_openClause 57 = .ok (.iconst 0, 1) := by decide +kernel
theorem dX10_openClause_58 : decode cX10_openClause 58 = .ok (.ireturn, 1) := by decide +kernel
theorem dJ6_numberOfTrailingZeros_0f7a4_0 : decode cJ6_numberOfTrailingZeros_0f7a4 0 = .ok (.iload_n 0, 1) := by decide +kernel
theorem dJ6_numberOfTrailingZeros_0f7a4_1 : decode cJ6_numberOfTrailingZeros_0f7a4 1 = .ok (.iconst (-1), 1) := by decide +kernel
theorem dJ6_numberOfTrailingZeros_0f7a4_2 : decode cJ6_numberOfTrailingZeros_0f7a4 2 = .ok (.ixor, 1) := by decide +kernel
theorem dJ6_numberOfTrailingZeros_0f7a4_3 : decode cJ6_numberOfTrailingZeros_0f7a4 3 = .ok (.iload_n 0, 1) := by decide +kernel
theorem dJ6_numberOfTrailingZeros_0f7a4_4 : decode cJ6_numberOfTrailingZeros_0f7a4 4 = .ok (.iconst 1, 1) := by decide +kernel
theorem dJ6_numberOfTrailingZeros_0f7a4_5 : decode cJ6_numberOfTrailingZeros_0f7a4 5 = .ok (.isub, 1) := by decide +kernel
theorem dJ6_numberOfTrailingZeros_0f7a4_6 : decode cJ6_numberOfTrailingZeros_0f7a4 6 = .ok (.iand, 1) := by decide +kernel
theorem dJ6_numberOfTrailingZeros_0f7a4_7 : decode cJ6_numberOfTrailingZeros_0f7a4 7 = .ok (.istore_n 0, 1) := by decide +kernel
theorem dJ6_numberOfTrailingZeros_0f7a4_8 : decode cJ6_numberOfTrailingZeros_0f7a4 8 = .ok (.iload_n 0, 1) := by decide +kernel
theorem dJ6_numberOfTrailingZeros_0f7a4_9 : decode cJ6_numberOfTrailingZeros_0f7a4 9 = .ok (.ifCond .gt 8, 3) := by decide +kernel
theorem dJ6_numberOfTrailingZeros_0f7a4_12 : decode cJ6_numberOfTrailingZeros_0f7a4 12 = .ok (.iload_n 0, 1) := by decide +kernel
theorem dJ6_numberOfTrailingZeros_0f7a4_13 : decode cJ6_numberOfTrailingZeros_0f7a4 13 = .ok (.bipush 32, 2) := by decide +kernel
theorem dJ6_numberOfTrailingZeros_0f7a4_15 : decode cJ6_numberOfTrailingZeros_0f7a4 15 = .ok (.iand, 1) := by decide +kernel
theorem dJ6_numberOfTrailingZeros_0f7a4_16 : decode cJ6_numberOfTrailingZeros_0f7a4 16 = .ok (.ireturn, 1) := by decide +kernel
theorem dJ6_numberOfTrailingZeros_0f7a4_17 : decode cJ6_numberOfTrailingZeros_0f7a4 17 = .ok (.iconst 1, 1) := by decide +kernel
theorem dJ6_numberOfTrailingZeros_0f7a4_18 : decode cJ6_numberOfTrailingZeros_0f7a4 18 = .ok (.istore_n 1, 1) := by decide +kernel
theorem dJ6_numberOfTrailingZeros_0f7a4_19 : decode cJ6_numberOfTrailingZeros_0f7a4 19 = .ok (.iload_n 0, 1) := by decide +kernel
theorem dJ6_numberOfTrailingZeros_0f7a4_20 : decode cJ6_numberOfTrailingZeros_0f7a4 20 = .ok (.ldc_w 264, 3) := by decide +kernel
theorem dJ6_numberOfTrailingZeros_0f7a4_23 : decode cJ6_numberOfTrailingZeros_0f7a4 23 = .ok (.if_icmp .le 11, 3) := by decide +kernel
theorem dJ6_numberOfTrailingZeros_0f7a4_26 : decode cJ6_numberOfTrailingZeros_0f7a4 26 = .ok (.iinc 1 16, 3) := by decide +kernel
theorem dJ6_numberOfTrailingZeros_0f7a4_29 : decode cJ6_numberOfTrailingZeros_0f7a4 29 = .ok (.iload_n 0, 1) := by decide +kernel
theorem dJ6_numberOfTrailingZeros_0f7a4_30 : decode cJ6_numberOfTrailingZeros_0f7a4 30 = .ok (.bipush 16, 2) := by decide +kernel
theorem dJ6_numberOfTrailingZeros_0f7a4_32 : decode cJ6_numberOfTrailingZeros_0f7a4 32 = .ok (.iushr, 1) := by decide +kernel
theorem dJ6_numberOfTrailingZeros_0f7a4_33 : decode cJ6_numberOfTrailingZeros_0f7a4 33 = .ok (.istore_n 0, 1) := by decide +kernel
theorem dJ6_numberOfTrailingZeros_0f7a4_34 : decode cJ6_numberOfTrailingZeros_0f7a4 34 = .ok (.iload_n 0, 1) := by decide +kernel
theorem dJ6_numberOfTrailingZeros_0f7a4_35 : decode cJ6_numberOfTrailingZeros_0f7a4 35 = .ok (.sipush 256, 3) := by decide +kernel
theorem dJ6_numberOfTrailingZeros_0f7a4_38 : decode cJ6_numberOfTrailingZeros_0f7a4 38 = .ok (.if_icmp .le 11, 3) := by decide +kernel
theorem dJ6_numberOfTrailingZeros_0f7a4_41 : decode cJ6_numberOfTrailingZeros_0f7a4 41 = .ok (.iinc 1 8, 3) := by decide +kernel
theorem dJ6_numberOfTrailingZeros_0f7a4_44 : decode cJ6_numberOfTrailingZeros_0f7a4 44 = .ok (.iload_n 0, 1) := by decide +kernel
theorem dJ6_numberOfTrailingZeros_0f7a4_45 : decode cJ6_numberOfTrailingZeros_0f7a4 45 = .ok (.bipush 8, 2) := by decide +kernel
theorem dJ6_numberOfTrailingZeros_0f7a4_47 : decode cJ6_numberOfTrailingZeros_0f7a4 47 = .ok (.iushr, 1) := by decide +kernel
theorem dJ6_numberOfTrailingZeros_0f7a4_48 : decode cJ6_numberOfTrailingZeros_0f7a4 48 = .ok (.istore_n 0, 1) := by decide +kernel
theorem dJ6_numberOfTrailingZeros_0f7a4_49 : decode cJ6_numberOfTrailingZeros_0f7a4 49 = .ok (.iload_n 0, 1) := by decide +kernel
theorem dJ6_numberOfTrailingZeros_0f7a4_50 : decode cJ6_numberOfTrailingZeros_0f7a4 50 = .ok (.bipush 16, 2) := by decide +kernel
theorem dJ6_numberOfTrailingZeros_0f7a4_52 : decode cJ6_numberOfTrailingZeros_0f7a4 52 = .ok (.if_icmp .le 10, 3) := by decide +kernel
theorem dJ6_numberOfTrailingZeros_0f7a4_55 : decode cJ6_numberOfTrailingZeros_0f7a4 55 = .ok (.iinc 1 4, 3) := by decide +kernel
theorem dJ6_numberOfTrailingZeros_0f7a4_58 : decode cJ6_numberOfTrailingZeros_0f7a4 58 = .ok (.iload_n 0, 1) := by decide +kernel
theorem dJ6_numberOfTrailingZeros_0f7a4_59 : decode cJ6_numberOfTrailingZeros_0f7a4 59 = .ok (.iconst 4, 1) := by decide +kernel
theorem dJ6_numberOfTrailingZeros_0f7a4_60 : decode cJ6_numberOfTrailingZeros_0f7a4 60 = .ok (.iushr, 1) := by decide +kernel
theorem dJ6_numberOfTrailingZeros_0f7a4_61 : decode cJ6_numberOfTrailingZeros_0f7a4 61 = .ok (.istore_n 0, 1) := by decide +kernel
theorem dJ6_numberOfTrailingZeros_0f7a4_62 : decode cJ6_numberOfTrailingZeros_0f7a4 62 = .ok (.iload_n 0, 1) := by decide +kernel
theorem dJ6_numberOfTrailingZeros_0f7a4_63 : decode cJ6_numberOfTrailingZeros_0f7a4 63 = .ok (.iconst 4, 1) := by decide +kernel
theorem dJ6_numberOfTrailingZeros_0f7a4_64 : decode cJ6_numberOfTrailingZeros_0f7a4 64 = .ok (.if_icmp .le 10, 3) := by decide +kernel
theorem dJ6_numberOfTrailingZeros_0f7a4_67 : decode cJ6_numberOfTrailingZeros_0f7a4 67 = .ok (.iinc 1 2, 3) := by decide +kernel
theorem dJ6_numberOfTrailingZeros_0f7a4_70 : decode cJ6_numberOfTrailingZeros_0f7a4 70 = .ok (.iload_n 0, 1) := by decide +kernel
theorem dJ6_numberOfTrailingZeros_0f7a4_71 : decode cJ6_numberOfTrailingZeros_0f7a4 71 = .ok (.iconst 2, 1) := by decide +kernel
theorem dJ6_numberOfTrailingZeros_0f7a4_72 : decode cJ6_numberOfTrailingZeros_0f7a4 72 = .ok (.iushr, 1) := by decide +kernel
theorem dJ6_numberOfTrailingZeros_0f7a4_73 : decode cJ6_numberOfTrailingZeros_0f7a4 73 = .ok (.istore_n 0, 1) := by decide +kernel
theorem dJ6_numberOfTrailingZeros_0f7a4_74 : decode cJ6_numberOfTrailingZeros_0f7a4 74 = .ok (.iload_n 1, 1) := by decide +kernel
theorem dJ6_numberOfTrailingZeros_0f7a4_75 : decode cJ6_numberOfTrailingZeros_0f7a4 75 = .ok (.iload_n 0, 1) := by decide +kernel
theorem dJ6_numberOfTrailingZeros_0f7a4_76 : decode cJ6_numberOfTrailingZeros_0f7a4 76 = .ok (.iconst 1, 1) := by decide +kernel
theorem dJ6_numberOfTrailingZeros_0f7a4_77 : decode cJ6_numberOfTrailingZeros_0f7a4 77 = .ok (.iushr, 1) := by decide +kernel
theorem dJ6_numberOfTrailingZeros_0f7a4_78 : decode cJ6_numberOfTrailingZeros_0f7a4 78 = .ok (.iadd, 1) := by decide +kernel
theorem dJ6_numberOfTrailingZeros_0f7a4_79 : decode cJ6_numberOfTrailingZeros_0f7a4 79 = .ok (.ireturn, 1) := by decide +kernel
theorem dJ6_bitCount_0f7a4_0 : decode cJ6_bitCount_0f7a4 0 = .ok (.iload_n 0, 1) := by decide +kernel
theorem dJ6_bitCount_0f7a4_1 : decode cJ6_bitCount_0f7a4 1 = .ok (.iload_n 0, 1) := by decide +kernel
theorem dJ6_bitCount_0f7a4_2 : decode cJ6_bitCount_0f7a4 2 = .ok (.iconst 1, 1) := by decide +kernel
theorem dJ6_bitCount_0f7a4_3 : decode cJ6_bitCount_0f7a4 3 = .ok (.iushr, 1) := by decide +kernel
theorem dJ6_bitCount_0f7a4_4 : decode cJ6_bitCount_0f7a4 4 = .ok (.ldc_w 265, 3) := by decide +kernel
theorem dJ6_bitCount_0f7a4_7 : decode cJ6_bitCount_0f7a4 7 = .ok (.iand, 1) := by decide +kernel
theorem dJ6_bitCount_0f7a4_8 : decode cJ6_bitCount_0f7a4 8 = .ok (.isub, 1) := by decide +kernel
theorem dJ6_bitCount_0f7a4_9 : decode cJ6_bitCount_0f7a4 9 = .ok (.istore_n 0, 1) := by decide +kernel
theorem dJ6_bitCount_0f7a4_10 : decode cJ6_bitCount_0f7a4 10 = .ok (.iload_n 0, 1) := by decide +kernel
theorem dJ6_bitCount_0f7a4_11 : decode cJ6_bitCount_0f7a4 11 = .ok (.ldc_w 266, 3) := by decide +kernel
theorem dJ6_bitCount_0f7a4_14 : decode cJ6_bitCount_0f7a4 14 = .ok (.iand, 1) := by decide +kernel
theorem dJ6_bitCount_0f7a4_15 : decode cJ6_bitCount_0f7a4 15 = .ok (.iload_n 0, 1) := by decide +kernel
theorem dJ6_bitCount_0f7a4_16 : decode cJ6_bitCount_0f7a4 16 = .ok (.iconst 2, 1) := by decide +kernel
theorem dJ6_bitCount_0f7a4_17 : decode cJ6_bitCount_0f7a4 17 = .ok (.iushr, 1) := by decide +kernel
theorem dJ6_bitCount_0f7a4_18 : decode cJ6_bitCount_0f7a4 18 = .ok (.ldc_w 266, 3) := by decide +kernel
theorem dJ6_bitCount_0f7a4_21 : decode cJ6_bitCount_0f7a4 21 = .ok (.iand, 1) := by decide +kernel
theorem dJ6_bitCount_0f7a4_22 : decode cJ6_bitCount_0f7a4 22 = .ok (.iadd, 1) := by decide +kernel
theorem dJ6_bitCount_0f7a4_23 : decode cJ6_bitCount_0f7a4 23 = .ok (.istore_n 0, 1) := by decide +kernel
theorem dJ6_bitCount_0f7a4_24 : decode cJ6_bitCount_0f7a4 24 = .ok (.iload_n 0, 1) := by decide +kernel
theorem dJ6_bitCount_0f7a4_25 : decode cJ6_bitCount_0f7a4 25 = .ok (.iload_n 0, 1) := by decide +kernel
theorem dJ6_bitCount_0f7a4_26 : decode cJ6_bitCount_0f7a4 26 = .ok (.iconst 4, 1) := by decide +kernel
theorem dJ6_bitCount_0f7a4_27 : decode cJ6_bitCount_0f7a4 27 = .ok (.iushr, 1) := by decide +kernel
theorem dJ6_bitCount_0f7a4_28 : decode cJ6_bitCount_0f7a4 28 = .ok (.iadd, 1) := by decide +kernel
theorem dJ6_bitCount_0f7a4_29 : decode cJ6_bitCount_0f7a4 29 = .ok (.ldc_w 267, 3) := by decide +kernel
theorem dJ6_bitCount_0f7a4_32 : decode cJ6_bitCount_0f7a4 32 = .ok (.iand, 1) := by decide +kernel
theorem dJ6_bitCount_0f7a4_33 : decode cJ6_bitCount_0f7a4 33 = .ok (.istore_n 0, 1) := by decide +kernel
theorem dJ6_bitCount_0f7a4_34 : decode cJ6_bitCount_0f7a4 34 = .ok (.iload_n 0, 1) := by decide +kernel
theorem dJ6_bitCount_0f7a4_35 : decode cJ6_bitCount_0f7a4 35 = .ok (.iload_n 0, 1) := by decide +kernel
theorem dJ6_bitCount_0f7a4_36 : decode cJ6_bitCount_0f7a4 36 = .ok (.bipush 8, 2) := by decide +kernel
theorem dJ6_bitCount_0f7a4_38 : decode cJ6_bitCount_0f7a4 38 = .ok (.iushr, 1) := by decide +kernel
theorem dJ6_bitCount_0f7a4_39 : decode cJ6_bitCount_0f7a4 39 = .ok (.iadd, 1) := by decide +kernel
theorem dJ6_bitCount_0f7a4_40 : decode cJ6_bitCount_0f7a4 40 = .ok (.istore_n 0, 1) := by decide +kernel
theorem dJ6_bitCount_0f7a4_41 : decode cJ6_bitCount_0f7a4 41 = .ok (.iload_n 0, 1) := by decide +kernel
theorem dJ6_bitCount_0f7a4_42 : decode cJ6_bitCount_0f7a4 42 = .ok (.iload_n 0, 1) := by decide +kernel
theorem dJ6_bitCount_0f7a4_43 : decode cJ6_bitCount_0f7a4 43 = .ok (.bipush 16, 2) := by decide +kernel
theorem dJ6_bitCount_0f7a4_45 : decode cJ6_bitCount_0f7a4 45 = .ok (.iushr, 1) := by decide +kernel
theorem dJ6_bitCount_0f7a4_46 : decode cJ6_bitCount_0f7a4 46 = .ok (.iadd, 1) := by decide +kernel
theorem dJ6_bitCount_0f7a4_47 : decode cJ6_bitCount_0f7a4 47 = .ok (.istore_n 0, 1) := by decide +kernel
theorem dJ6_bitCount_0f7a4_48 : decode cJ6_bitCount_0f7a4 48 = .ok (.iload_n 0, 1) := by decide +kernel
theorem dJ6_bitCount_0f7a4_49 : decode cJ6_bitCount_0f7a4 49 = .ok (.bipush 63, 2) := by decide +kernel
theorem dJ6_bitCount_0f7a4_51 : decode cJ6_bitCount_0f7a4 51 = .ok (.iand, 1) := by decide +kernel
theorem dJ6_bitCount_0f7a4_52 : decode cJ6_bitCount_0f7a4 52 = .ok (.ireturn, 1) := by decide +kernel
