theorem dX10_readBytes_5 : decode cX10_readBytes 5 = .ok (.aload_n 0, 1) := by decide +kernel
theorem dX10_readBytes_6 : decode cX10_readBytes 6 = .ok (.dup, 1) := by decide +kernel
theorem dX10_readBytes_7 : decode cX10_readBytes 7 = .ok (.getfield 253, 3) := by decide +kernel
theorem dX10_readBytes_10 : decode cX10_readBytes 10 = .ok (.iconst 1, 1) := by decide +kernel
theorem dX10_readBytes_11 : decode cX10_readBytes 11 = .ok (.iadd, 1) := by decide +kernel
theorem dX10_readBytes_12 : decode cX10_readBytes 12 = .ok (.putfield 253, 3) := by decide +kernel
theorem dX10_readBytes_15 : decode cX10_readBytes 15 = .ok (.aload_n 0, 1) := by decide +kernel
theorem dX10_readBytes_16 : decode cX10_readBytes 16 = .ok (.invokevirtual 262, 3) := by decide +kernel
theorem dX10_readBytes_19 : decode cX10_readBytes 19 = .ok (.bipush 32, 2) := by decide +kernel
theorem dX10_readBytes_21 : decode cX10_readBytes 21 = .ok (.bipush 126, 2) := by decide +kernel
theorem dX10_readBytes_23 : decode cX10_readBytes 23 = .ok (.invokestatic 103, 3) := by decide +kernel
theorem dX10_readBytes_26 : decode cX10_readBytes 26 = .ok (.ifCond .eq 25, 3) := by decide +kernel
theorem dX10_readBytes_29 : decode cX10_readBytes 29 = .ok (.aload_n 0, 1) := by decide +kernel
theorem dX10_readBytes_30 : decode cX10_readBytes 30 = .ok (.invokevirtual 262, 3) := by decide +kernel
theorem dX10_readBytes_33 : decode cX10_readBytes 33 = .ok (.bipush 39, 2) := by decide +kernel
theorem dX10_readBytes_35 : decode cX10_readBytes 35 = .ok (.if_icmp .eq 16, 3) := by decide +kernel
theorem dX10_readBytes_38 : decode cX10_readBytes 38 = .ok (.aload_n 0, 1) := by decide +kernel
theorem dX10_readBytes_39 : decode cX10_readBytes 39 = .ok (.dup, 1) := by decide +kernel
theorem dX10_readBytes_40 : decode cX10_readBytes 40 = .ok (.getfield 253, 3) := by decide +kernel
theorem dX10_readBytes_43 : decode cX10_readBytes 43 = .ok (.iconst 1, 1) := by decide +kernel
theorem dX10_readBytes_44 : decode cX10_readBytes 44 = .ok (.iadd, 1) := by decide +kernel
theorem dX10_readBytes_45 : decode cX10_readBytes 45 = .ok (.putfield 253, 3) := by decide +kernel
theorem dX10_readBytes_48 : decode cX10_readBytes 48 = .ok (.goto (-33), 3) := by decide +kernel
theorem dX10_readBytes_51 : decode cX10_readBytes 51 = .ok (.aload_n 0, 1) := by decide +kernel
theorem dX10_readBytes_52 : decode cX10_readBytes 52 = .ok (.invokevirtual 262, 3) := by decide +kernel
theorem dX10_readBytes_55 : decode cX10_readBytes 55 = .ok (.bipush 39, 2) := by decide +kernel
theorem dX10_readBytes_57 : decode cX10_readBytes 57 = .ok (.if_icmp .eq 13, 3) := by decide +kernel
theorem dX10_readBytes_60 : decode cX10_readBytes 60 = .ok (.aload_n 0, 1) := by decide +kernel
theorem dX10_readBytes_61 : decode cX10_readBytes 61 = .ok (.iconst 1, 1) := by decide +kernel
theorem dX10_readBytes_62 : decode cX10_readBytes 62 = .ok (.aload_n 0, 1) := by decide +kernel
theorem dX10_readBytes_63 : decode cX10_readBytes 63 = .ok (.getfield 253, 3) := by decide +kernel
theorem dX10_readBytes_66 : decode cX10_readBytes 66 = .ok (.invokevirtual 266, 3) := by decide +kernel
theorem dX10_readBytes_69 : decode cX10_readBytes 69 = .ok (.ireturn, 1) := by decide +kernel
theorem dX10_readBytes_70 : decode cX10_readBytes 70 = .ok (.iload_n 2, 1) := by decide +kernel
theorem dX10_readBytes_71 : decode cX10_readBytes 71 = .ok (.ifCond .eq 25, 3) := by decide +kernel
theorem dX10_readBytes_74 : decode cX10_readBytes 74 = .ok (.aload_n 0, 1) := by decide +kernel
theorem dX10_readBytes_75 : decode cX10_readBytes 75 = .ok (.iload_n 3, 1) := by decide +kernel
theorem dX10_readBytes_76 : decode cX10_readBytes 76 = .ok (.iconst 1, 1) := by decide +kernel
theorem dX10_readBytes_77 : decode cX10_readBytes 77 = .ok (.iadd, 1) := by decide +kernel
theorem dX10_readBytes_78 : decode cX10_readBytes 78 = .ok (.aload_n 0, 1) := by decide +kernel
theorem dX10_readBytes_79 : decode cX10_readBytes 79 = .ok (.getfield 253, 3) := by decide +kernel
theorem dX10_readBytes_82 : decode cX10_readBytes 82 = .ok (.invokevirtual 269, 3) := by decide +kernel
theorem dX10_readBytes_85 : decode cX10_readBytes 85 = .ok (.ifCond .ne 11, 3) := by decide +kernel
theorem dX10_readBytes_88 : decode cX10_readBytes 88 = .ok (.aload_n 0, 1) := by decide +kernel
theorem dX10_readBytes_89 : decode cX10_readBytes 89 = .ok (.bipush 6, 2) := by decide +kernel
theorem dX10_readBytes_91 : decode cX10_readBytes 91 = .ok (.iload_n 3, 1) := by decide +kernel
theorem dX10_readBytes_92 : decode cX10_readBytes 92 = .ok (.invokevirtual 266, 3) := by decide +kernel
theorem dX10_readBytes_95 : decode cX10_readBytes 95 = .ok (.ireturn, 1) := by decide +kernel
theorem dX10_readBytes_96 : decode cX10_readBytes 96 = .ok (.aload_n 0, 1) := by decide +kernel
theorem dX10_readBytes_97 : decode cX10_readBytes 97 = .ok (.iload_n 1, 1) := by decide +kernel
theorem dX10_readBytes_98 : decode cX10_readBytes 98 = .ok (.iconst 4, 1) := by decide +kernel
theorem dX10_readBytes_99 : decode cX10_readBytes 99 = .ok (.iload_n 3, 1) := by decide +kernel
theorem dX10_readBytes_100 : decode cX10_readBytes 100 = .ok (.iconst 1, 1) := by decide +kernel
theorem dX10_readBytes_101 : decode cX10_readBytes 101 = .ok (.iadd, 1) := by decide +kernel
theorem dX10_readBytes_102 : decode cX10_readBytes 102 = .ok (.aload_n 0, 1) := by decide +kernel
theorem dX10_readBytes_103 : decode cX10_readBytes 103 = .ok (.getfield 253, 3) := by decide +kernel
theorem dX10_readBytes_106 : decode cX10_readBytes 106 = .ok (.iload_n 3, 1) := by decide +kernel
theorem dX10_readBytes_107 : decode cX10_readBytes 107 = .ok (.isub, 1) := by decide +kernel
theorem dX10_readBytes_108 : decode cX10_readBytes 108 = .ok (.iconst 1, 1) := by decide +kernel
theorem dX10_readBytes_109 : decode cX10_readBytes 109 = .ok (.isub, 1) := by decide +kernel
theorem dX10_readBytes_110 : decode cX10_readBytes 110 = .ok (.invokevirtual 272, 3) := by decide +kernel
theorem dX10_readBytes_113 : decode cX10_readBytes 113 = .ok (.aload_n 0, 1) := by decide +kernel
theorem dX10_readBytes_114 : decode cX10_readBytes 114 = .ok (.dup, 1) := by decide +kernel
theorem dX10_readBytes_115 : decode cX10_readBytes 115 = .ok (.getfield 253, 3) := by decide +kernel
theorem dX10_readBytes_118 : decode cX10_readBytes 118 = .ok (.iconst 1, 1) := by decide +kernel
theorem dX10_readBytes_119 : decode cX10_readBytes 119 = .ok (.iadd, 1) := by decide +kernel
theorem dX10_readBytes_120 : decode cX10_readBytes 120 = .ok (.putfield 253, 3) := by decide +kernel
theorem dX10_readBytes_123 : decode cX10_readBytes 123 = .ok (.iconst 1, 1) := by decide +kernel
theorem dX10_readBytes_124 : decode cX10_readBytes 124 = .ok (.ireturn, 1) := by decide +kernel
theorem dX10_isToken_0 : decode cX10_isToken 0 = .ok (.iload_n 1, 1) := by decide +kernel
theorem dX10_isToken_1 : decode cX10_isToken 1 = .ok (.iload_n 2, 1) := by decide +kernel
theorem dX10_isToken_2 : decode cX10_isToken 2 = .ok (.if_icmp .ne 5, 3) := by decide +kernel
theorem dX10_isToken_5 : decode cX10_isToken 5 = .ok (.iconst 0, 1) := by decide +kernel
theorem dX10_isToken_6 : decode cX10_isToken 6 = .ok (.ireturn, 1) := by decide +kernel
theorem dX10_isToken_7 : decode cX10_isToken 7 = .ok (.aload_n 0, 1) := by decide +kernel
theorem dX10_isToken_8 : decode cX10_isToken 8 = .ok (.getfield 68, 3) := by decide +kernel
theorem dX10_isToken_11 : decode cX10_isToken 11 = .ok (.iload_n 1, 1) := by decide +kernel
theorem dX10_isToken_12 : decode cX10_isToken 12 = .ok (.iaload, 1) := by decide +kernel
theorem dX10_isToken_13 : decode cX10_isToken 13 = .ok (.invokestatic 124, 3) := by decide +kernel
theorem dX10_isToken_16 : decode cX10_isToken 16 = .ok (.istore_n 3, 1) := by decide +kernel
theorem dX10_isToken_17 : decode cX10_isToken 17 = .ok (.iload_n 1, 1) := by decide +kernel
theorem dX10_isToken_18 : decode cX10_isToken 18 = .ok (.iconst 1, 1) := by decide +kernel
theorem dX10_isToken_19 : decode cX10_isToken 19 = .ok (.iadd, 1) := by decide +kernel
theorem dX10_isToken_20 : decode cX10_isToken 20 = .ok (.istore 4, 2) := by decide +kernel
theorem dX10_isToken_22 : decode cX10_isToken 22 = .ok (.iload 4, 2) := by decide +kernel
theorem dX10_isToken_24 : decode cX10_isToken 24 = .ok (.iload_n 2, 1) := by decide +kernel
theorem dX10_isToken_25 : decode cX10_isToken 25 = .ok (.if_icmp .ge 30, 3) := by decide +kernel
theorem dX10_isToken_28 : decode cX10_isToken 28 = .ok (.iload_n 3, 1) := by decide +kernel
theorem dX10_isToken_29 : decode cX10_isToken 29 = .ok (.iconst 2, 1) := by decide +kernel
theorem dX10_isToken_30 : decode cX10_isToken 30 = .ok (.if_icmp .eq 17, 3) := by decide +kernel
theorem dX10_isToken_33 : decode cX10_isToken 33 = .ok (.aload_n 0, 1) := by decide +kernel
theorem dX10_isToken_34 : decode cX10_isToken 34 = .ok (.getfield 68, 3) := by decide +kernel
theorem dX10_isToken_37 : decode cX10_isToken 37 = .ok (.iload 4, 2) := by decide +kernel
theorem dX10_isToken_39 : decode cX10_isToken 39 = .ok (.iaload, 1) := by decide +kernel
theorem dX10_isToken_40 : decode cX10_isToken 40 = .ok (.invokestatic 124, 3) := by decide +kernel
theorem dX10_isToken_43 : decode cX10_isToken 43 = .ok (.iload_n 3, 1) := by decide +kernel
theorem dX10_isToken_44 : decode cX10_isToken 44 = .ok (.if_icmp .eq 5, 3) := by decide +kernel
theorem dX10_isToken_47 : decode cX10_isToken 47 = .ok (.iconst 0, 1) := by decide +kernel
theorem dX10_isToken_48 : decode cX10_isToken 48 = .ok (.ireturn, 1) := by decide +kernel
theorem dX10_isToken_49 : decode cX10_isToken 49 = .ok (.iinc 4 1, 3) := by decide +kernel
theorem dX10_isToken_52 : decode cX10_isToken 52 = .ok (.goto (-30), 3) := by decide +kernel
theorem dX10_isToken_55 : decode cX10_isToken 55 = .ok (.iconst 1, 1) := by decide +kernel
theorem dX10_isToken_56 : decode cX10_isToken 56 = .ok (.ireturn, 1) := by decide +kernel
theorem dX10_beginsElement_0 : decode cX10_beginsElement 0 = .ok (.iload_n 0, 1) := by decide +kernel
theorem dX10_beginsElement_1 : decode cX10_beginsElement 1 = .ok (.invokestatic 276, 3) := by decide +kernel
theorem dX10_beginsElement_4 : decode cX10_beginsElement 4 = .ok (.iconst (-1), 1) := by decide +kernel
theorem dX10_beginsElement_5 : decode cX10_beginsElement 5 = .ok (.if_icmp .ne 15, 3) := by decide +kernel
theorem dX10_beginsElement_8 : decode cX10_beginsElement 8 = .ok (.iload_n 0, 1) := by decide +kernel
theorem dX10_beginsElement_9 : decode cX10_beginsElement 9 = .ok (.bipush 95, 2) := by decide +kernel
theorem dX10_beginsElement_11 : decode cX10_beginsElement 11 = .ok (.if_icmp .eq 9, 3) := by decide +kernel
theorem dX10_beginsElement_14 : decode cX10_beginsElement 14 = .ok (.iload_n 0, 1) := by decide +kernel
theorem dX10_beginsElement_15 : decode cX10_beginsElement 15 = .ok (.bipush 39, 2) := by decide +kernel
theorem dX10_beginsElement_17 : decode cX10_beginsElement 17 = .ok (.if_icmp .ne 7, 3) := by decide +kernel
theorem dX10_beginsElement_20 : decode cX10_beginsElement 20 = .ok (.iconst 1, 1) := by decide +kernel
theorem dX10_beginsElement_21 : decode cX10_beginsElement 21 = .ok (.goto 4, 3) := by decide +kernel
theorem dX10_beginsElement_24 : decode cX10_beginsElement 24 = .ok (.iconst 0, 1) := by decide +kernel
theorem dX10_beginsElement_25 : decode cX10_beginsElement 25 = .ok (.ireturn, 1) := by decide +kernel
theorem dX10_readElement_0 : decode cX10_readElement 0 = .ok (.aload_n 0, 1) := by decide +kernel
theorem dX10_readElement_1 : decode cX10_readElement 1 = .ok (.invokevirtual 262, 3) := by decide +kernel
theorem dX10_readElement_4 : decode cX10_readElement 4 = .ok (.istore_n 2, 1) := by decide +kernel
theorem dX10_readElement_5 : decode cX10_readElement 5 = .ok (.iload_n 2, 1) := by decide +kernel
theorem dX10_readElement_6 : decode cX10_readElement 6 = .ok (.bipush 39, 2) := by decide +kernel
theorem dX10_readElement_8 : decode cX10_readElement 8 = .ok (.if_icmp .ne 10, 3) := by decide +kernel
theorem dX10_readElement_11 : decode cX10_readElement 11 = .ok (.aload_n 0, 1) := by decide +kernel
theorem dX10_readElement_12 : decode cX10_readElement 12 = .ok (.iload_n 1, 1) := by decide +kernel
theorem dX10_readElement_13 : decode cX10_readElement 13 = .ok (.iconst 1, 1) := by decide +kernel
theorem dX10_readElement_14 : decode cX10_readElement 14 = .ok (.invokevirtual 279, 3) := by decide +kernel
theorem dX10_readElement_17 : decode cX10_readElement 17 = .ok (.ireturn, 1) := by decide +kernel
theorem dX10_readElement_18 : decode cX10_readElement 18 = .ok (.aload_n 0, 1) := by decide +kernel
theorem dX10_readElement_19 : decode cX10_readElement 19 = .ok (.dup, 1) := by decide +kernel
theorem dX10_readElement_20 : decode cX10_readElement 20 = .ok (.getfield 253, 3) := by decide +kernel
theorem dX10_readElement_23 : decode cX10_readElement 23 = .ok (.iconst 1, 1) := by decide +kernel
theorem dX10_readElement_24 : decode cX10_readElement 24 = .ok (.iadd, 1) := by decide +kernel
theorem dX10_readElement_25 : decode cX10_readElement 25 = .ok (.putfield 253, 3) := by decide +kernel
theorem dX10_readElement_28 : decode cX10_readElement 28 = .ok (.iload_n 2, 1) := by decide +kernel
theorem dX10_readElement_29 : decode cX10_readElement 29 = .ok (.bipush 95, 2) := by decide +kernel
theorem dX10_readElement_31 : decode cX10_readElement 31 = .ok (.if_icmp .ne 13, 3) := by decide +kernel
theorem dX10_readElement_34 : decode cX10_readElement 34 = .ok (.aload_n 0, 1) := by decide +kernel
theorem dX10_readElement_35 : decode cX10_readElement 35 = .ok (.iload_n 1, 1) := by decide +kernel
theorem dX10_readElement_36 : decode cX10_readElement 36 = .ok (.iconst 3, 1) := by decide +kernel
theorem dX10_readElement_37 : decode cX10_readElement 37 = .ok (.iconst 0, 1) := by decide +kernel
theorem dX10_readElement_38 : decode cX10_readElement 38 = .ok (.iconst 0, 1) := by decide +kernel
theorem dX10_readElement_39 : decode cX10_readElement 39 = .ok (.invokevirtual 272, 3) := by decide +kernel
theorem dX10_readElement_42 : decode cX10_readElement 42 = .ok (.iconst 1, 1) := by decide +kernel
theorem dX10_readElement_43 : decode cX10_readElement 43 = .ok (.ireturn, 1) := by decide +kernel
theorem dX10_readElement_44 : decode cX10_readElement 44 = .ok (.aload_n 0, 1) := by decide +kernel
theorem dX10_readElement_45 : decode cX10_readElement 45 = .ok (.invokevirtual 262, 3) := by decide +kernel
theorem dX10_readElement_48 : decode cX10_readElement 48 = .ok (.invokestatic 283, 3) := by decide +kernel
theorem dX10_readElement_51 : decode cX10_readElement 51 = .ok (.ifCond .ne 13, 3) := by decide +kernel
theorem dX10_readElement_54 : decode cX10_readElement 54 = .ok (.aload_n 0, 1) := by decide +kernel
theorem dX10_readElement_55 : decode cX10_readElement 55 = .ok (.iconst 1, 1) := by decide +kernel
theorem dX10_readElement_56 : decode cX10_readElement 56 = .ok (.aload_n 0, 1) := by decide +kernel
theorem dX10_readElement_57 : decode cX10_readElement 57 = .ok (.getfield 253, 3) := by decide +kernel
theorem dX10_readElement_60 : decode cX10_readElement 60 = .ok (.invokevirtual 266, 3) := by decide +kernel
theorem dX10_readElement_63 : decode cX10_readElement 63 = .ok (.ireturn, 1) := by decide +kernel
theorem dX10_readElement_64 : decode cX10_readElement 64 = .ok (.aload_n 0, 1) := by decide +kernel
theorem dX10_readElement_65 : decode cX10_readElement 65 = .ok (.iload_n 1, 1) := by decide +kernel
theorem dX10_readElement_66 : decode cX10_readElement 66 = .ok (.iload_n 2, 1) := by decide +kernel
theorem dX10_readElement_67 : decode cX10_readElement 67 = .ok (.invokestatic 276, 3) := by decide +kernel
theorem dX10_readElement_70 : decode cX10_readElement 70 = .ok (.aload_n 0, 1) := by decide +kernel
theorem dX10_readElement_71 : decode cX10_readElement 71 = .ok (.invokevirtual 262, 3) := by decide +kernel
theorem dX10_readElement_74 : decode cX10_readElement 74 = .ok (.bipush 97, 2) := by decide +kernel
theorem dX10_readElement_76 : decode cX10_readElement 76 = .ok (.isub, 1) := by decide +kernel
theorem dX10_readElement_77 : decode cX10_readElement 77 = .ok (.iconst 0, 1) := by decide +kernel
theorem dX10_readElement_78 : decode cX10_readElement 78 = .ok (.invokevirtual 272, 3) := by decide +kernel
theorem dX10_readElement_81 : decode cX10_readElement 81 = .ok (.aload_n 0, 1) := by decide +kernel
theorem dX10_readElement_82 : decode cX10_readElement 82 = .ok (.dup, 1) := by decide +kernel
theorem dX10_readElement_83 : decode cX10_readElement 83 = .ok (.getfield 253, 3) := by decide +kernel
theorem dX10_readElement_86 : decode cX10_readElement 86 = .ok (.iconst 1, 1) := by decide +kernel
theorem dX10_readElement_87 : decode cX10_readElement 87 = .ok (.iadd, 1) := by decide +kernel
theorem dX10_readElement_88 : decode cX10_readElement 88 = .ok (.putfield 253, 3) := by decide +kernel
theorem dX10_readElement_91 : decode cX10_readElement 91 = .ok (.iconst 1, 1) := by decide +kernel
theorem dX10_readElement_92 : decode cX10_readElement 92 = .ok (.ireturn, 1) := by decide +kernel
theorem dX10_beginsPart_0 : decode cX10_beginsPart 0 = .ok (.iload_n 0, 1) := by decide +kernel
theorem dX10_beginsPart_1 : decode cX10_beginsPart 1 = .ok (.invokestatic 276, 3) := by decide +kernel
theorem dX10_beginsPart_4 : decode cX10_beginsPart 4 = .ok (.iconst (-1), 1) := by decide +kernel
theorem dX10_beginsPart_5 : decode cX10_beginsPart 5 = .ok (.if_icmp .ne 27, 3) := by decide +kernel
theorem dX10_beginsPart_8 : decode cX10_beginsPart 8 = .ok (.iload_n 0, 1) := by decide +kernel
theorem dX10_beginsPart_9 : decode cX10_beginsPart 9 = .ok (.bipush 43, 2) := by decide +kernel
theorem dX10_beginsPart_11 : decode cX10_beginsPart 11 = .ok (.if_icmp .eq 21, 3) := by decide +kernel
theorem dX10_beginsPart_14 : decode cX10_beginsPart 14 = .ok (.iload_n 0, 1) := by decide +kernel
theorem dX10_beginsPart_15 : decode cX10_beginsPart 15 = .ok (.bipush 45, 2) := by decide +kernel
theorem dX10_beginsPart_17 : decode cX10_beginsPart 17 = .ok (.if_icmp .eq 15, 3) := by decide +kernel
theorem dX10_beginsPart_20 : decode cX10_beginsPart 20 = .ok (.iload_n 0, 1) := by decide +kernel
theorem dX10_beginsPart_21 : decode cX10_beginsPart 21 = .ok (.bipush 126, 2) := by decide +kernel
theorem dX10_beginsPart_23 : decode cX10_beginsPart 23 = .ok (.if_icmp .eq 9, 3) := by decide +kernel
theorem dX10_beginsPart_26 : decode cX10_beginsPart 26 = .ok (.iload_n 0, 1) := by decide +kernel
theorem dX10_beginsPart_27 : decode cX10_beginsPart 27 = .ok (.bipush 39, 2) := by decide +kernel
theorem dX10_beginsPart_29 : decode cX10_beginsPart 29 = .ok (.if_icmp .ne 7, 3) := by decide +kernel
theorem dX10_beginsPart_32 : decode cX10_beginsPart 32 = .ok (.iconst 1, 1) := by decide +kernel
theorem dX10_beginsPart_33 : decode cX10_beginsPart 33 = .ok (.goto 4, 3) := by decide +kernel
theorem dX10_beginsPart_36 : decode cX10_beginsPart 36 = .ok (.iconst 0, 1) := by decide +kernel
theorem dX10_beginsPart_37 : decode cX10_beginsPart 37 = .ok (.ireturn, 1) := by decide +kernel
theorem dX10_isNamed_0 : decode cX10_isNamed 0 = .ok (.iconst 0, 1) := by decide +kernel
theorem dX10_isNamed_1 : decode cX10_isNamed 1 = .ok (.istore 4, 2) := by decide +kernel
theorem dX10_isNamed_3 : decode cX10_isNamed 3 = .ok (.iload 4, 2) := by decide +kernel
theorem dX10_isNamed_5 : decode cX10_isNamed 5 = .ok (.aload_n 0, 1) := by decide +kernel
theorem dX10_isNamed_6 : decode cX10_isNamed 6 = .ok (.getfield 71, 3) := by decide +kernel
theorem dX10_isNamed_9 : decode cX10_isNamed 9 = .ok (.iload_n 1, 1) := by decide +kernel
theorem dX10_isNamed_10 : decode cX10_isNamed 10 = .ok (.iconst 2, 1) := by decide +kernel
theorem dX10_isNamed_11 : decode cX10_isNamed 11 = .ok (.iadd, 1) := by decide +kernel
theorem dX10_isNamed_12 : decode cX10_isNamed 12 = .ok (.iaload, 1) := by decide +kernel
theorem dX10_isNamed_13 : decode cX10_isNamed 13 = .ok (.if_icmp .ge 47, 3) := by decide +kernel
theorem dX10_isNamed_16 : decode cX10_isNamed 16 = .ok (.aload_n 0, 1) := by decide +kernel
theorem dX10_isNamed_17 : decode cX10_isNamed 17 = .ok (.getfield 71, 3) := by decide +kernel
theorem dX10_isNamed_20 : decode cX10_isNamed 20 = .ok (.iload_n 1, 1) := by decide +kernel
theorem dX10_isNamed_21 : decode cX10_isNamed 21 = .ok (.iconst 4, 1) := by decide +kernel
theorem dX10_isNamed_22 : decode cX10_isNamed 22 = .ok (.iadd, 1) := by decide +kernel
theorem dX10_isNamed_23 : decode cX10_isNamed 23 = .ok (.iconst 3, 1) := by decide +kernel
theorem dX10_isNamed_24 : decode cX10_isNamed 24 = .ok (.iload 4, 2) := by decide +kernel
theorem dX10_isNamed_26 : decode cX10_isNamed 26 = .ok (.imul, 1) := by decide +kernel
theorem dX10_isNamed_27 : decode cX10_isNamed 27 = .ok (.iadd, 1) := by decide +kernel
theorem dX10_isNamed_28 : decode cX10_isNamed 28 = .ok (.iaload, 1) := by decide +kernel
theorem dX10_isNamed_29 : decode cX10_isNamed 29 = .ok (.iload_n 2, 1) := by decide +kernel
theorem dX10_isNamed_30 : decode cX10_isNamed 30 = .ok (.if_icmp .ne 24, 3) := by decide +kernel
theorem dX10_isNamed_33 : decode cX10_isNamed 33 = .ok (.aload_n 0, 1) := by decide +kernel
theorem dX10_isNamed_34 : decode cX10_isNamed 34 = .ok (.getfield 71, 3) := by decide +kernel
theorem dX10_isNamed_37 : decode cX10_isNamed 37 = .ok (.iload_n 1, 1) := by decide +kernel
theorem dX10_isNamed_38 : decode cX10_isNamed 38 = .ok (.iconst 4, 1) := by decide +kernel
theorem dX10_isNamed_39 : decode cX10_isNamed 39 = .ok (.iadd, 1) := by decide +kernel
theorem dX10_isNamed_40 : decode cX10_isNamed 40 = .ok (.iconst 3, 1) := by decide +kernel
theorem dX10_isNamed_41 : decode cX10_isNamed 41 = .ok (.iload 4, 2) := by decide +kernel
theorem dX10_isNamed_43 : decode cX10_isNamed 43 = .ok (.imul, 1) := by decide +kernel
theorem dX10_isNamed_44 : decode cX10_isNamed 44 = .ok (.iadd, 1) := by decide +kernel
theorem dX10_isNamed_45 : decode cX10_isNamed 45 = .ok (.iconst 1, 1) := by decide +kernel
theorem dX10_isNamed_46 : decode cX10_isNamed 46 = .ok (.iadd, 1) := by decide +kernel
theorem dX10_isNamed_47 : decode cX10_isNamed 47 = .ok (.iaload, 1) := by decide +kernel
theorem dX10_isNamed_48 : decode cX10_isNamed 48 = .ok (.iload_n 3, 1) := by decide +kernel
theorem dX10_isNamed_49 : decode cX10_isNamed 49 = .ok (.if_icmp .ne 5, 3) := by decide +kernel
theorem dX10_isNamed_52 : decode cX10_isNamed 52 = .ok (.iconst 1, 1) := by decide +kernel
theorem dX10_isNamed_53 : decode cX10_isNamed 53 = .ok (.ireturn, 1) := by decide +kernel
theorem dX10_isNamed_54 : decode cX10_isNamed 54 = .ok (.iinc 4 1, 3) := by decide +kernel
theorem dX10_isNamed_57 : decode cX10_isNamed 57 = .ok (.goto (-54), 3) := by decide +kernel
theorem dX10_isNamed_60 : decode cX10_isNamed 60 = .ok (.iconst 0, 1) := by decide +kernel
theorem dX10_isNamed_61 : decode cX10_isNamed 61 = .ok (.ireturn, 1) := by decide +kernel
theorem dX10_readPart_0 : decode cX10_readPart 0 = .ok (.aload_n 0, 1) := by decide +kernel
theorem dX10_readPart_1 : decode cX10_readPart 1 = .ok (.invokevirtual 262, 3) := by decide +kernel
theorem dX10_readPart_4 : decode cX10_readPart 4 = .ok (.istore_n 3, 1) := by decide +kernel
theorem dX10_readPart_5 : decode cX10_readPart 5 = .ok (.iload_n 3, 1) := by decide +kernel
theorem dX10_readPart_6 : decode cX10_readPart 6 = .ok (.bipush 39, 2) := by decide +kernel
theorem dX10_readPart_8 : decode cX10_readPart 8 = .ok (.if_icmp .ne 10, 3) := by decide +kernel
theorem dX10_readPart_11 : decode cX10_readPart 11 = .ok (.aload_n 0, 1) := by decide +kernel
theorem dX10_readPart_12 : decode cX10_readPart 12 = .ok (.iload_n 2, 1) := by decide +kernel
theorem dX10_readPart_13 : decode cX10_readPart 13 = .ok (.iconst 0, 1) := by decide +kernel
theorem dX10_readPart_14 : decode cX10_readPart 14 = .ok (.invokevirtual 279, 3) := by decide +kernel
theorem dX10_readPart_17 : decode cX10_readPart 17 = .ok (.ireturn, 1) := by decide +kernel
theorem dX10_readPart_18 : decode cX10_readPart 18 = .ok (.iload_n 3, 1) := by decide +kernel
theorem dX10_readPart_19 : decode cX10_readPart 19 = .ok (.invokestatic 276, 3) := by decide +kernel
theorem dX10_readPart_22 : decode cX10_readPart 22 = .ok (.iconst (-1), 1) := by decide +kernel
theorem dX10_readPart_23 : decode cX10_readPart 23 = .ok (.if_icmp .ne 7, 3) := by decide +kernel
theorem dX10_readPart_26 : decode cX10_readPart 26 = .ok (.iconst 1, 1) := by decide +kernel
theorem dX10_readPart_27 : decode cX10_readPart 27 = .ok (.goto 4, 3) := by decide +kernel
theorem dX10_readPart_30 : decode cX10_readPart 30 = .ok (.iconst 0, 1) := by decide +kernel
theorem dX10_readPart_31 : decode cX10_readPart 31 = .ok (.istore 4, 2) := by decide +kernel
theorem dX10_readPart_33 : decode cX10_readPart 33 = .ok (.iload 4, 2) := by decide +kernel
theorem dX10_readPart_35 : decode cX10_readPart 35 = .ok (.ifCond .eq 13, 3) := by decide +kernel
theorem dX10_readPart_38 : decode cX10_readPart 38 = .ok (.aload_n 0, 1) := by decide +kernel
theorem dX10_readPart_39 : decode cX10_readPart 39 = .ok (.dup, 1) := by decide +kernel
theorem dX10_readPart_40 : decode cX10_readPart 40 = .ok (.getfield 253, 3) := by decide +kernel
theorem dX10_readPart_43 : decode cX10_readPart 43 = .ok (.iconst 1, 1) := by decide +kernel
theorem dX10_readPart_44 : decode cX10_readPart 44 = .ok (.iadd, 1) := by decide +kernel
theorem dX10_readPart_45 : decode cX10_readPart 45 = .ok (.putfield 253, 3) := by decide +kernel
theorem dX10_readPart_48 : decode cX10_readPart 48 = .ok (.aload_n 0, 1) := by decide +kernel
theorem dX10_readPart_49 : decode cX10_readPart 49 = .ok (.invokevirtual 262, 3) := by decide +kernel
theorem dX10_readPart_52 : decode cX10_readPart 52 = .ok (.invokestatic 276, 3) := by decide +kernel
theorem dX10_readPart_55 : decode cX10_readPart 55 = .ok (.istore 5, 2) := by decide +kernel
theorem dX10_readPart_57 : decode cX10_readPart 57 = .ok (.iload 4, 2) := by decide +kernel
theorem dX10_readPart_59 : decode cX10_readPart 59 = .ok (.ifCond .eq 29, 3) := by decide +kernel
theorem dX10_readPart_62 : decode cX10_readPart 62 = .ok (.iload 5, 2) := by decide +kernel
theorem dX10_readPart_64 : decode cX10_readPart 64 = .ok (.iload_n 3, 1) := by decide +kernel
theorem dX10_readPart_65 : decode cX10_readPart 65 = .ok (.bipush 126, 2) := by decide +kernel
theorem dX10_readPart_67 : decode cX10_readPart 67 = .ok (.if_icmp .ne 7, 3) := by decide +kernel
theorem dX10_readPart_70 : decode cX10_readPart 70 = .ok (.iconst 0, 1) := by decide +kernel
theorem dX10_readPart_71 : decode cX10_readPart 71 = .ok (.goto 4, 3) := by decide +kernel
theorem dX10_readPart_74 : decode cX10_readPart 74 = .ok (.iconst 1, 1) := by decide +kernel
theorem dX10_readPart_75 : decode cX10_readPart 75 = .ok (.if_icmp .eq 13, 3) := by decide +kernel
theorem dX10_readPart_78 : decode cX10_readPart 78 = .ok (.aload_n 0, 1) := by decide +kernel
theorem dX10_readPart_79 : decode cX10_readPart 79 = .ok (.iconst 1, 1) := by decide +kernel
theorem dX10_readPart_80 : decode cX10_readPart 80 = .ok (.aload_n 0, 1) := by decide +kernel
theorem dX10_readPart_81 : decode cX10_readPart 81 = .ok (.getfield 253, 3) := by decide +kernel
theorem dX10_readPart_84 : decode cX10_readPart 84 = .ok (.invokevirtual 266, 3) := by decide +kernel
theorem dX10_readPart_87 : decode cX10_readPart 87 = .ok (.ireturn, 1) := by decide +kernel
theorem dX10_readPart_88 : decode cX10_readPart 88 = .ok (.aload_n 0, 1) := by decide +kernel
theorem dX10_readPart_89 : decode cX10_readPart 89 = .ok (.getfield 253, 3) := by decide +kernel
theorem dX10_readPart_92 : decode cX10_readPart 92 = .ok (.istore 6, 2) := by decide +kernel
theorem dX10_readPart_94 : decode cX10_readPart 94 = .ok (.aload_n 0, 1) := by decide +kernel
theorem dX10_readPart_95 : decode cX10_readPart 95 = .ok (.dup, 1) := by decide +kernel
theorem dX10_readPart_96 : decode cX10_readPart 96 = .ok (.getfield 253, 3) := by decide +kernel
theorem dX10_readPart_99 : decode cX10_readPart 99 = .ok (.iconst 1, 1) := by decide +kernel
theorem dX10_readPart_100 : decode cX10_readPart 100 = .ok (.iadd, 1) := by decide +kernel
theorem dX10_readPart_101 : decode cX10_readPart 101 = .ok (.putfield 253, 3) := by decide +kernel
theorem dX10_readPart_104 : decode cX10_readPart 104 = .ok (.aload_n 0, 1) := by decide +kernel
theorem dX10_readPart_105 : decode cX10_readPart 105 = .ok (.invokevirtual 262, 3) := by decide +kernel
theorem dX10_readPart_108 : decode cX10_readPart 108 = .ok (.invokestatic 283, 3) := by decide +kernel
theorem dX10_readPart_111 : decode cX10_readPart 111 = .ok (.ifCond .ne 13, 3) := by decide +kernel
theorem dX10_readPart_114 : decode cX10_readPart 114 = .ok (.aload_n 0, 1) := by decide +kernel
theorem dX10_readPart_115 : decode cX10_readPart 115 = .ok (.iconst 1, 1) := by decide +kernel
theorem dX10_readPart_116 : decode cX10_readPart 116 = .ok (.aload_n 0, 1) := by decide +kernel
theorem dX10_readPart_117 : decode cX10_readPart 117 = .ok (.getfield 253, 3) := by decide +kernel
theorem dX10_readPart_120 : decode cX10_readPart 120 = .ok (.invokevirtual 266, 3) := by decide +kernel
theorem dX10_readPart_123 : decode cX10_readPart 123 = .ok (.ireturn, 1) := by decide +kernel
theorem dX10_readPart_124 : decode cX10_readPart 124 = .ok (.aload_n 0, 1) := by decide +kernel
theorem dX10_readPart_125 : decode cX10_readPart 125 = .ok (.invokevirtual 262, 3) := by decide +kernel
theorem dX10_readPart_128 : decode cX10_readPart 128 = .ok (.bipush 97, 2) := by decide +kernel
theorem dX10_readPart_130 : decode cX10_readPart 130 = .ok (.isub, 1) := by decide +kernel
theorem dX10_readPart_131 : decode cX10_readPart 131 = .ok (.istore 7, 2) := by decide +kernel
theorem dX10_readPart_133 : decode cX10_readPart 133 = .ok (.aload_n 0, 1) := by decide +kernel
theorem dX10_readPart_134 : decode cX10_readPart 134 = .ok (.iload_n 1, 1) := by decide +kernel
theorem dX10_readPart_135 : decode cX10_readPart 135 = .ok (.iload 5, 2) := by decide +kernel
theorem dX10_readPart_137 : decode cX10_readPart 137 = .ok (.iload 7, 2) := by decide +kernel
theorem dX10_readPart_139 : decode cX10_readPart 139 = .ok (.invokevirtual 286, 3) := by decide +kernel
theorem dX10_readPart_142 : decode cX10_readPart 142 = .ok (.ifCond .ne 11, 3) := by decide +kernel
theorem dX10_readPart_145 : decode cX10_readPart 145 = .ok (.aload_n 0, 1) := by decide +kernel
theorem dX10_readPart_146 : decode cX10_readPart 146 = .ok (.iconst 5, 1) := by decide +kernel
theorem dX10_readPart_147 : decode cX10_readPart 147 = .ok (.iload 6, 2) := by decide +kernel
theorem dX10_readPart_149 : decode cX10_readPart 149 = .ok (.invokevirtual 266, 3) := by decide +kernel
theorem dX10_readPart_152 : decode cX10_readPart 152 = .ok (.ireturn, 1) := by decide +kernel
theorem dX10_readPart_153 : decode cX10_readPart 153 = .ok (.aload_n 0, 1) := by decide +kernel
theorem dX10_readPart_154 : decode cX10_readPart 154 = .ok (.iload_n 2, 1) := by decide +kernel
theorem dX10_readPart_155 : decode cX10_readPart 155 = .ok (.iload_n 3, 1) := by decide +kernel
theorem dX10_readPart_156 : decode cX10_readPart 156 = .ok (.bipush 43, 2) := by decide +kernel
theorem dX10_readPart_158 : decode cX10_readPart 158 = .ok (.if_icmp .ne 7, 3) := by decide +kernel
theorem dX10_readPart_161 : decode cX10_readPart 161 = .ok (.iconst 5, 1) := by decide +kernel
theorem dX10_readPart_162 : decode cX10_readPart 162 = .ok (.goto 27, 3) := by decide +kernel
theorem dX10_readPart_165 : decode cX10_readPart 165 = .ok (.iload_n 3, 1) := by decide +kernel
theorem dX10_readPart_166 : decode cX10_readPart 166 = .ok (.bipush 45, 2) := by decide +kernel
theorem dX10_readPart_168 : decode cX10_readPart 168 = .ok (.if_icmp .ne 8, 3) := by decide +kernel
theorem dX10_readPart_171 : decode cX10_readPart 171 = .ok (.bipush 6, 2) := by decide +kernel
theorem dX10_readPart_173 : decode cX10_readPart 173 = .ok (.goto 16, 3) := by decide +kernel
theorem dX10_readPart_176 : decode cX10_readPart 176 = .ok (.iload_n 3, 1) := by decide +kernel
theorem dX10_readPart_177 : decode cX10_readPart 177 = .ok (.bipush 126, 2) := by decide +kernel
theorem dX10_readPart_179 : decode cX10_readPart 179 = .ok (.if_icmp .ne 8, 3) := by decide +kernel
theorem dX10_readPart_182 : decode cX10_readPart 182 = .ok (.bipush 7, 2) := by decide +kernel
theorem dX10_readPart_184 : decode cX10_readPart 184 = .ok (.goto 5, 3) := by decide +kernel
theorem dX10_readPart_187 : decode cX10_readPart 187 = .ok (.iload 5, 2) := by decide +kernel
theorem dX10_readPart_189 : decode cX10_readPart 189 = .ok (.iload 7, 2) := by decide +kernel
theorem dX10_readPart_191 : decode cX10_readPart 191 = .ok (.iconst 0, 1) := by decide +kernel
theorem dX10_readPart_192 : decode cX10_readPart 192 = .ok (.invokevirtual 272, 3) := by decide +kernel
theorem dX10_readPart_195 : decode cX10_readPart 195 = .ok (.aload_n 0, 1) := by decide +kernel
theorem dX10_readPart_196 : decode cX10_readPart 196 = .ok (.dup, 1) := by decide +kernel
theorem dX10_readPart_197 : decode cX10_readPart 197 = .ok (.getfield 253, 3) := by decide +kernel
theorem dX10_readPart_200 : decode cX10_readPart 200 = .ok (.iconst 1, 1) := by decide +kernel
theorem dX10_readPart_201 : decode cX10_readPart 201 = .ok (.iadd, 1) := by decide +kernel
theorem dX10_readPart_202 : decode cX10_readPart 202 = .ok (.putfield 253, 3) := by decide +kernel
theorem dX10_readPart_205 : decode cX10_readPart 205 = .ok (.iconst 1, 1) := by decide +kernel
theorem dX10_readPart_206 : decode cX10_readPart 206 = .ok (.ireturn, 1) := by decide +kernel
theorem dX10_readElements_0 : decode cX10_readElements 0 = .ok (.iconst 0, 1) := by decide +kernel
theorem dX10_readElements_1 : decode cX10_readElements 1 = .ok (.istore_n 2, 1) := by decide +kernel
theorem dX10_readElements_2 : decode cX10_readElements 2 = .ok (.aload_n 0, 1) := by decide +kernel
theorem dX10_readElements_3 : decode cX10_readElements 3 = .ok (.invokevirtual 262, 3) := by decide +kernel
theorem dX10_readElements_6 : decode cX10_readElements 6 = .ok (.invokestatic 289, 3) := by decide +kernel
theorem dX10_readElements_9 : decode cX10_readElements 9 = .ok (.ifCond .eq 50, 3) := by decide +kernel
theorem dX10_readElements_12 : decode cX10_readElements 12 = .ok (.iload_n 2, 1) := by decide +kernel
theorem dX10_readElements_13 : decode cX10_readElements 13 = .ok (.bipush 6, 2) := by decide +kernel
theorem dX10_readElements_15 : decode cX10_readElements 15 = .ok (.if_icmp .ne 13, 3) := by decide +kernel
theorem dX10_readElements_18 : decode cX10_readElements 18 = .ok (.aload_n 0, 1) := by decide +kernel
theorem dX10_readElements_19 : decode cX10_readElements 19 = .ok (.iconst 4, 1) := by decide +kernel
theorem dX10_readElements_20 : decode cX10_readElements 20 = .ok (.aload_n 0, 1) := by decide +kernel
theorem dX10_readElements_21 : decode cX10_readElements 21 = .ok (.getfield 253, 3) := by decide +kernel
theorem dX10_readElements_24 : decode cX10_readElements 24 = .ok (.invokevirtual 266, 3) := by decide +kernel
theorem dX10_readElements_27 : decode cX10_readElements 27 = .ok (.ireturn, 1) := by decide +kernel
theorem dX10_readElements_28 : decode cX10_readElements 28 = .ok (.aload_n 0, 1) := by decide +kernel
theorem dX10_readElements_29 : decode cX10_readElements 29 = .ok (.iload_n 1, 1) := by decide +kernel
theorem dX10_readElements_30 : decode cX10_readElements 30 = .ok (.iconst 4, 1) := by decide +kernel
theorem dX10_readElements_31 : decode cX10_readElements 31 = .ok (.iadd, 1) := by decide +kernel
theorem dX10_readElements_32 : decode cX10_readElements 32 = .ok (.iconst 3, 1) := by decide +kernel
theorem dX10_readElements_33 : decode cX10_readElements 33 = .ok (.iload_n 2, 1) := by decide +kernel
theorem dX10_readElements_34 : decode cX10_readElements 34 = .ok (.imul, 1) := by decide +kernel
theorem dX10_readElements_35 : decode cX10_readElements 35 = .ok (.iadd, 1) := by decide +kernel
theorem dX10_readElements_36 : decode cX10_readElements 36 = .ok (.invokevirtual 292, 3) := by decide +kernel
theorem dX10_readElements_39 : decode cX10_readElements 39 = .ok (.ifCond .ne 5, 3) := by decide +kernel
theorem dX10_readElements_42 : decode cX10_readElements 42 = .ok (.iconst 0, 1) := by decide +kernel
theorem dX10_readElements_43 : decode cX10_readElements 43 = .ok (.ireturn, 1) := by decide +kernel
theorem dX10_readElements_44 : decode cX10_readElements 44 = .ok (.iinc 2 1, 3) := by decide +kernel
theorem dX10_readElements_47 : decode cX10_readElements 47 = .ok (.aload_n 0, 1) := by decide +kernel
theorem dX10_readElements_48 : decode cX10_readElements 48 = .ok (.getfield 71, 3) := by decide +kernel
theorem dX10_readElements_51 : decode cX10_readElements 51 = .ok (.iload_n 1, 1) := by decide +kernel
theorem dX10_readElements_52 : decode cX10_readElements 52 = .ok (.iconst 2, 1) := by decide +kernel
theorem dX10_readElements_53 : decode cX10_readElements 53 = .ok (.iadd, 1) := by decide +kernel
theorem dX10_readElements_54 : decode cX10_readElements 54 = .ok (.iload_n 2, 1) := by decide +kernel
theorem dX10_readElements_55 : decode cX10_readElements 55 = .ok (.iastore, 1) := by decide +kernel
theorem dX10_readElements_56 : decode cX10_readElements 56 = .ok (.goto (-54), 3) := by decide +kernel
theorem dX10_readElements_59 : decode cX10_readElements 59 = .ok (.iload_n 2, 1) := by decide +kernel
theorem dX10_readElements_60 : decode cX10_readElements 60 = .ok (.ifCond .le 12, 3) := by decide +kernel
theorem dX10_readElements_63 : decode cX10_readElements 63 = .ok (.aload_n 0, 1) := by decide +kernel
theorem dX10_readElements_64 : decode cX10_readElements 64 = .ok (.invokevirtual 262, 3) := by decide +kernel
theorem dX10_readElements_67 : decode cX10_readElements 67 = .ok (.bipush 62, 2) := by decide +kernel
theorem dX10_readElements_69 : decode cX10_readElements 69 = .ok (.if_icmp .eq 15, 3) := by decide +kernel
theorem dX10_readElements_72 : decode cX10_readElements 72 = .ok (.aload_n 0, 1) := by decide +kernel
theorem dX10_readElements_73 : decode cX10_readElements 73 = .ok (.iconst 1, 1) := by decide +kernel
theorem dX10_readElements_74 : decode cX10_readElements 74 = .ok (.aload_n 0, 1) := by decide +kernel
theorem dX10_readElements_75 : decode cX10_readElements 75 = .ok (.getfield 253, 3) := by decide +kernel
theorem dX10_readElements_78 : decode cX10_readElements 78 = .ok (.invokevirtual 266, 3) := by decide +kernel
theorem dX10_readElements_81 : decode cX10_readElements 81 = .ok (.ifCond .eq 7, 3) := by decide +kernel
theorem dX10_readElements_84 : decode cX10_readElements 84 = .ok (.iconst 1, 1) := by decide +kernel
theorem dX10_readElements_85 : decode cX10_readElements 85 = .ok (.goto 4, 3) := by decide +kernel
theorem dX10_readElements_88 : decode cX10_readElements 88 = .ok (.iconst 0, 1) := by decide +kernel
theorem dX10_readElements_89 : decode cX10_readElements 89 = .ok (.ireturn, 1) := by decide +kernel
theorem dX10_readParts_0 : decode cX10_readParts 0 = .ok (.iconst 0, 1) := by decide +kernel
theorem dX10_readParts_1 : decode cX10_readParts 1 = .ok (.istore_n 2, 1) := by decide +kernel
theorem dX10_readParts_2 : decode cX10_readParts 2 = .ok (.aload_n 0, 1) := by decide +kernel
theorem dX10_readParts_3 : decode cX10_readParts 3 = .ok (.invokevirtual 262, 3) := by decide +kernel
theorem dX10_readParts_6 : decode cX10_readParts 6 = .ok (.invokestatic 295, 3) := by decide +kernel
theorem dX10_readParts_9 : decode cX10_readParts 9 = .ok (.ifCond .eq 52, 3) := by decide +kernel
theorem dX10_readParts_12 : decode cX10_readParts 12 = .ok (.iload_n 2, 1) := by decide +kernel
theorem dX10_readParts_13 : decode cX10_readParts 13 = .ok (.bipush 6, 2) := by decide +kernel
theorem dX10_readParts_15 : decode cX10_readParts 15 = .ok (.if_icmp .ne 13, 3) := by decide +kernel
theorem dX10_readParts_18 : decode cX10_readParts 18 = .ok (.aload_n 0, 1) := by decide +kernel
theorem dX10_readParts_19 : decode cX10_readParts 19 = .ok (.iconst 4, 1) := by decide +kernel
theorem dX10_readParts_20 : decode cX10_readParts 20 = .ok (.aload_n 0, 1) := by decide +kernel
theorem dX10_readParts_21 : decode cX10_readParts 21 = .ok (.getfield 253, 3) := by decide +kernel
theorem dX10_readParts_24 : decode cX10_readParts 24 = .ok (.invokevirtual 266, 3) := by decide +kernel
theorem dX10_readParts_27 : decode cX10_readParts 27 = .ok (.ireturn, 1) := by decide +kernel
theorem dX10_readParts_28 : decode cX10_readParts 28 = .ok (.aload_n 0, 1) := by decide +kernel
theorem dX10_readParts_29 : decode cX10_readParts 29 = .ok (.iload_n 1, 1) := by decide +kernel
theorem dX10_readParts_30 : decode cX10_readParts 30 = .ok (.iload_n 1, 1) := by decide +kernel
theorem dX10_readParts_31 : decode cX10_readParts 31 = .ok (.bipush 22, 2) := by decide +kernel
theorem dX10_readParts_33 : decode cX10_readParts 33 = .ok (.iadd, 1) := by decide +kernel
theorem dX10_readParts_34 : decode cX10_readParts 34 = .ok (.iconst 3, 1) := by decide +kernel
theorem dX10_readParts_35 : decode cX10_readParts 35 = .ok (.iload_n 2, 1) := by decide +kernel
theorem dX10_readParts_36 : decode cX10_readParts 36 = .ok (.imul, 1) := by decide +kernel
theorem dX10_readParts_37 : decode cX10_readParts 37 = .ok (.iadd, 1) := by decide +kernel
theorem dX10_readParts_38 : decode cX10_readParts 38 = .ok (.invokevirtual 298, 3) := by decide +kernel
theorem dX10_readParts_41 : decode cX10_readParts 41 = .ok (.ifCond .ne 5, 3) := by decide +kernel
theorem dX10_readParts_44 : decode cX10_readParts 44 = .ok (.iconst 0, 1) := by decide +kernel
theorem dX10_readParts_45 : decode cX10_readParts 45 = .ok (.ireturn, 1) := by decide +kernel
theorem dX10_readParts_46 : decode cX10_readParts 46 = .ok (.iinc 2 1, 3) := by decide +kernel
theorem dX10_readParts_49 : decode cX10_readParts 49 = .ok (.aload_n 0, 1) := by decide +kernel
theorem dX10_readParts_50 : decode cX10_readParts 50 = .ok (.getfield 71, 3) := by decide +kernel
theorem dX10_readParts_53 : decode cX10_readParts 53 = .ok (.iload_n 1, 1) := by decide +kernel
theorem dX10_readParts_54 : decode cX10_readParts 54 = .ok (.iconst 3, 1) := by decide +kernel
theorem dX10_readParts_55 : decode cX10_readParts 55 = .ok (.iadd, 1) := by decide +kernel
theorem dX10_readParts_56 : decode cX10_readParts 56 = .ok (.iload_n 2, 1) := by decide +kernel
theorem dX10_readParts_57 : decode cX10_readParts 57 = .ok (.iastore, 1) := by decide +kernel
theorem dX10_readParts_58 : decode cX10_readParts 58 = .ok (.goto (-56), 3) := by decide +kernel
theorem dX10_readParts_61 : decode cX10_readParts 61 = .ok (.aload_n 0, 1) := by decide +kernel
theorem dX10_readParts_62 : decode cX10_readParts 62 = .ok (.invokevirtual 262, 3) := by decide +kernel
theorem dX10_readParts_65 : decode cX10_readParts 65 = .ok (.iconst (-1), 1) := by decide +kernel
theorem dX10_readParts_66 : decode cX10_readParts 66 = .ok (.if_icmp .eq 24, 3) := by decide +kernel
theorem dX10_readParts_69 : decode cX10_readParts 69 = .ok (.aload_n 0, 1) := by decide +kernel
theorem dX10_readParts_70 : decode cX10_readParts 70 = .ok (.invokevirtual 262, 3) := by decide +kernel
theorem dX10_readParts_73 : decode cX10_readParts 73 = .ok (.bipush 59, 2) := by decide +kernel
theorem dX10_readParts_75 : decode cX10_readParts 75 = .ok (.if_icmp .eq 15, 3) := by decide +kernel
theorem dX10_readParts_78 : decode cX10_readParts 78 = .ok (.aload_n 0, 1) := by decide +kernel
theorem dX10_readParts_79 : decode cX10_readParts 79 = .ok (.iconst 1, 1) := by decide +kernel
theorem dX10_readParts_80 : decode cX10_readParts 80 = .ok (.aload_n 0, 1) := by decide +kernel
theorem dX10_readParts_81 : decode cX10_readParts 81 = .ok (.getfield 253, 3) := by decide +kernel
theorem dX10_readParts_84 : decode cX10_readParts 84 = .ok (.invokevirtual 266, 3) := by decide +kernel
theorem dX10_readParts_87 : decode cX10_readParts 87 = .ok (.ifCond .eq 7, 3) := by decide +kernel
theorem dX10_readParts_90 : decode cX10_readParts 90 = .ok (.iconst 1, 1) := by decide +kernel
theorem dX10_readParts_91 : decode cX10_readParts 91 = .ok (.goto 4, 3) := by decide +kernel
theorem dX10_readParts_94 : decode cX10_readParts 94 = .ok (.iconst 0, 1) := by decide +kernel
theorem dX10_readParts_95 : decode cX10_readParts 95 = .ok (.ireturn, 1) := by decide +kernel
theorem dX10_readRule_0 : decode cX10_readRule 0 = .ok (.aload_n 0, 1) := by decide +kernel
theorem dX10_readRule_1 : decode cX10_readRule 1 = .ok (.getfield 253, 3) := by decide +kernel
theorem dX10_readRule_4 : decode cX10_readRule 4 = .ok (.istore_n 1, 1) := by decide +kernel
theorem dX10_readRule_5 : decode cX10_readRule 5 = .ok (.iconst 0, 1) := by decide +kernel
theorem dX10_readRule_6 : decode cX10_readRule 6 = .ok (.istore_n 2, 1) := by decide +kernel
theorem dX10_readRule_7 : decode cX10_readRule 7 = .ok (.aload_n 0, 1) := by decide +kernel
theorem dX10_readRule_8 : decode cX10_readRule 8 = .ok (.invokevirtual 262, 3) := by decide +kernel
theorem dX10_readRule_11 : decode cX10_readRule 11 = .ok (.invokestatic 111, 3) := by decide +kernel
theorem dX10_readRule_14 : decode cX10_readRule 14 = .ok (.ifCond .eq 39, 3) := by decide +kernel
theorem dX10_readRule_17 : decode cX10_readRule 17 = .ok (.iload_n 2, 1) := by decide +kernel
theorem dX10_readRule_18 : decode cX10_readRule 18 = .ok (.bipush 99, 2) := by decide +kernel
theorem dX10_readRule_20 : decode cX10_readRule 20 = .ok (.if_icmp .le 7, 3) := by decide +kernel
theorem dX10_readRule_23 : decode cX10_readRule 23 = .ok (.iload_n 2, 1) := by decide +kernel
theorem dX10_readRule_24 : decode cX10_readRule 24 = .ok (.goto 15, 3) := by decide +kernel
theorem dX10_readRule_27 : decode cX10_readRule 27 = .ok (.bipush 10, 2) := by decide +kernel
theorem dX10_readRule_29 : decode cX10_readRule 29 = .ok (.iload_n 2, 1) := by decide +kernel
theorem dX10_readRule_30 : decode cX10_readRule 30 = .ok (.imul, 1) := by decide +kernel
theorem dX10_readRule_31 : decode cX10_readRule 31 = .ok (.aload_n 0, 1) := by decide +kernel
theorem dX10_readRule_32 : decode cX10_readRule 32 = .ok (.invokevirtual 262, 3) := by decide +kernel
theorem dX10_readRule_35 : decode cX10_readRule 35 = .ok (.iadd, 1) := by decide +kernel
theorem dX10_readRule_36 : decode cX10_readRule 36 = .ok (.bipush 48, 2) := by decide +kernel
theorem dX10_readRule_38 : decode cX10_readRule 38 = .ok (.isub, 1) := by decide +kernel
theorem dX10_readRule_39 : decode cX10_readRule 39 = .ok (.istore_n 2, 1) := by decide +kernel
theorem dX10_readRule_40 : decode cX10_readRule 40 = .ok (.aload_n 0, 1) := by decide +kernel
theorem dX10_readRule_41 : decode cX10_readRule 41 = .ok (.dup, 1) := by decide +kernel
theorem dX10_readRule_42 : decode cX10_readRule 42 = .ok (.getfield 253, 3) := by decide +kernel
theorem dX10_readRule_45 : decode cX10_readRule 45 = .ok (.iconst 1, 1) := by decide +kernel
theorem dX10_readRule_46 : decode cX10_readRule 46 = .ok (.iadd, 1) := by decide +kernel
theorem dX10_readRule_47 : decode cX10_readRule 47 = .ok (.putfield 253, 3) := by decide +kernel
theorem dX10_readRule_50 : decode cX10_readRule 50 = .ok (.goto (-43), 3) := by decide +kernel
theorem dX10_readRule_53 : decode cX10_readRule 53 = .ok (.aload_n 0, 1) := by decide +kernel
theorem dX10_readRule_54 : decode cX10_readRule 54 = .ok (.getfield 253, 3) := by decide +kernel
theorem dX10_readRule_57 : decode cX10_readRule 57 = .ok (.iload_n 1, 1) := by decide +kernel
theorem dX10_readRule_58 : decode cX10_readRule 58 = .ok (.if_icmp .ne 10, 3) := by decide +kernel
theorem dX10_readRule_61 : decode cX10_readRule 61 = .ok (.aload_n 0, 1) := by decide +kernel
theorem dX10_readRule_62 : decode cX10_readRule 62 = .ok (.iconst 1, 1) := by decide +kernel
theorem dX10_readRule_63 : decode cX10_readRule 63 = .ok (.iload_n 1, 1) := by decide +kernel
theorem dX10_readRule_64 : decode cX10_readRule 64 = .ok (.invokevirtual 266, 3) := by decide +kernel
theorem dX10_readRule_67 : decode cX10_readRule 67 = .ok (.ireturn, 1) := by decide +kernel
theorem dX10_readRule_68 : decode cX10_readRule 68 = .ok (.iload_n 2, 1) := by decide +kernel
theorem dX10_readRule_69 : decode cX10_readRule 69 = .ok (.iconst 1, 1) := by decide +kernel
theorem dX10_readRule_70 : decode cX10_readRule 70 = .ok (.bipush 99, 2) := by decide +kernel
theorem dX10_readRule_72 : decode cX10_readRule 72 = .ok (.invokestatic 103, 3) := by decide +kernel
theorem dX10_readRule_75 : decode cX10_readRule 75 = .ok (.ifCond .ne 10, 3) := by decide +kernel
theorem dX10_readRule_78 : decode cX10_readRule 78 = .ok (.aload_n 0, 1) := by decide +kernel
theorem dX10_readRule_79 : decode cX10_readRule 79 = .ok (.iconst 2, 1) := by decide +kernel
theorem dX10_readRule_80 : decode cX10_readRule 80 = .ok (.iload_n 1, 1) := by decide +kernel
theorem dX10_readRule_81 : decode cX10_readRule 81 = .ok (.invokevirtual 266, 3) := by decide +kernel
theorem dX10_readRule_84 : decode cX10_readRule 84 = .ok (.ireturn, 1) := by decide +kernel
theorem dX10_readRule_85 : decode cX10_readRule 85 = .ok (.aload_n 0, 1) := by decide +kernel
theorem dX10_readRule_86 : decode cX10_readRule 86 = .ok (.getfield 301, 3) := by decide +kernel
theorem dX10_readRule_89 : decode cX10_readRule 89 = .ok (.bipush 6, 2) := by decide +kernel
theorem dX10_readRule_91 : decode cX10_readRule 91 = .ok (.if_icmp .ne 10, 3) := by decide +kernel
theorem dX10_readRule_94 : decode cX10_readRule 94 = .ok (.aload_n 0, 1) := by decide +kernel
theorem dX10_readRule_95 : decode cX10_readRule 95 = .ok (.iconst 3, 1) := by decide +kernel
theorem dX10_readRule_96 : decode cX10_readRule 96 = .ok (.iload_n 1, 1) := by decide +kernel
theorem dX10_readRule_97 : decode cX10_readRule 97 = .ok (.invokevirtual 266, 3) := by decide +kernel
theorem dX10_readRule_100 : decode cX10_readRule 100 = .ok (.ireturn, 1) := by decide +kernel
theorem dX10_readRule_101 : decode cX10_readRule 101 = .ok (.aload_n 0, 1) := by decide +kernel
theorem dX10_readRule_102 : decode cX10_readRule 102 = .ok (.invokevirtual 262, 3) := by decide +kernel
theorem dX10_readRule_105 : decode cX10_readRule 105 = .ok (.bipush 58, 2) := by decide +kernel
theorem dX10_readRule_107 : decode cX10_readRule 107 = .ok (.if_icmp .eq 13, 3) := by decide +kernel
theorem dX10_readRule_110 : decode cX10_readRule 110 = .ok (.aload_n 0, 1) := by decide +kernel
theorem dX10_readRule_111 : decode cX10_readRule 111 = .ok (.iconst 1, 1) := by decide +kernel
theorem dX10_readRule_112 : decode cX10_readRule 112 = .ok (.aload_n 0, 1) := by decide +kernel
theorem dX10_readRule_113 : decode cX10_readRule 113 = .ok (.getfield 253, 3) := by decide +kernel
theorem dX10_readRule_116 : decode cX10_readRule 116 = .ok (.invokevirtual 266, 3) := by decide +kernel
theorem dX10_readRule_119 : decode cX10_readRule 119 = .ok (.ireturn, 1) := by decide +kernel
theorem dX10_readRule_120 : decode cX10_readRule 120 = .ok (.aload_n 0, 1) := by decide +kernel
theorem dX10_readRule_121 : decode cX10_readRule 121 = .ok (.dup, 1) := by decide +kernel
theorem dX10_readRule_122 : decode cX10_readRule 122 = .ok (.getfield 253, 3) := by decide +kernel
theorem dX10_readRule_125 : decode cX10_readRule 125 = .ok (.iconst 1, 1) := by decide +kernel
theorem dX10_readRule_126 : decode cX10_readRule 126 = .ok (.iadd, 1) := by decide +kernel
theorem dX10_readRule_127 : decode cX10_readRule 127 = .ok (.putfield 253, 3) := by decide +kernel
theorem dX10_readRule_130 : decode cX10_readRule 130 = .ok (.bipush 40, 2) := by decide +kernel
theorem dX10_readRule_132 : decode cX10_readRule 132 = .ok (.aload_n 0, 1) := by decide +kernel
theorem dX10_readRule_133 : decode cX10_readRule 133 = .ok (.getfield 301, 3) := by decide +kernel
theorem dX10_readRule_136 : decode cX10_readRule 136 = .ok (.imul, 1) := by decide +kernel
theorem dX10_readRule_137 : decode cX10_readRule 137 = .ok (.istore_n 3, 1) := by decide +kernel
theorem dX10_readRule_138 : decode cX10_readRule 138 = .ok (.iconst 0, 1) := by decide +kernel
theorem dX10_readRule_139 : decode cX10_readRule 139 = .ok (.istore 4, 2) := by decide +kernel
theorem dX10_readRule_141 : decode cX10_readRule 141 = .ok (.iload 4, 2) := by decide +kernel
theorem dX10_readRule_143 : decode cX10_readRule 143 = .ok (.bipush 40, 2) := by decide +kernel
theorem dX10_readRule_145 : decode cX10_readRule 145 = .ok (.if_icmp .ge 19, 3) := by decide +kernel
theorem dX10_readRule_148 : decode cX10_readRule 148 = .ok (.aload_n 0, 1) := by decide +kernel
theorem dX10_readRule_149 : decode cX10_readRule 149 = .ok (.getfield 71, 3) := by decide +kernel
theorem dX10_readRule_152 : decode cX10_readRule 152 = .ok (.iload_n 3, 1) := by decide +kernel
theorem dX10_readRule_153 : decode cX10_readRule 153 = .ok (.iload 4, 2) := by decide +kernel
theorem dX10_readRule_155 : decode cX10_readRule 155 = .ok (.iadd, 1) := by decide +kernel
theorem dX10_readRule_156 : decode cX10_readRule 156 = .ok (.iconst 0, 1) := by decide +kernel
theorem dX10_readRule_157 : decode cX10_readRule 157 = .ok (.iastore, 1) := by decide +kernel
theorem dX10_readRule_158 : decode cX10_readRule 158 = .ok (.iinc 4 1, 3) := by decide +kernel
theorem dX10_readRule_161 : decode cX10_readRule 161 = .ok (.goto (-20), 3) := by decide +kernel
theorem dX10_readRule_164 : decode cX10_readRule 164 = .ok (.aload_n 0, 1) := by decide +kernel
theorem dX10_readRule_165 : decode cX10_readRule 165 = .ok (.getfield 71, 3) := by decide +kernel
theorem dX10_readRule_168 : decode cX10_readRule 168 = .ok (.iload_n 3, 1) := by decide +kernel
theorem dX10_readRule_169 : decode cX10_readRule 169 = .ok (.iload_n 2, 1) := by decide +kernel
theorem dX10_readRule_170 : decode cX10_readRule 170 = .ok (.iastore, 1) := by decide +kernel
theorem dX10_readRule_171 : decode cX10_readRule 171 = .ok (.aload_n 0, 1) := by decide +kernel
theorem dX10_readRule_172 : decode cX10_readRule 172 = .ok (.getfield 71, 3) := by decide +kernel
theorem dX10_readRule_175 : decode cX10_readRule 175 = .ok (.iload_n 3, 1) := by decide +kernel
theorem dX10_readRule_176 : decode cX10_readRule 176 = .ok (.iconst 1, 1) := by decide +kernel
theorem dX10_readRule_177 : decode cX10_readRule 177 = .ok (.iadd, 1) := by decide +kernel
theorem dX10_readRule_178 : decode cX10_readRule 178 = .ok (.iconst 1, 1) := by decide +kernel
theorem dX10_readRule_179 : decode cX10_readRule 179 = .ok (.iastore, 1) := by decide +kernel
theorem dX10_readRule_180 : decode cX10_readRule 180 = .ok (.aload_n 0, 1) := by decide +kernel
theorem dX10_readRule_181 : decode cX10_readRule 181 = .ok (.iload_n 3, 1) := by decide +kernel
theorem dX10_readRule_182 : decode cX10_readRule 182 = .ok (.invokevirtual 304, 3) := by decide +kernel
theorem dX10_readRule_185 : decode cX10_readRule 185 = .ok (.ifCond .ne 5, 3) := by decide +kernel
theorem dX10_readRule_188 : decode cX10_readRule 188 = .ok (.iconst 0, 1) := by decide +kernel
theorem dX10_readRule_189 : decode cX10_readRule 189 = .ok (.ireturn, 1) := by decide +kernel
theorem dX10_readRule_190 : decode cX10_readRule 190 = .ok (.aload_n 0, 1) := by decide +kernel
theorem dX10_readRule_191 : decode cX10_readRule 191 = .ok (.dup, 1) := by decide +kernel
theorem dX10_readRule_192 : decode cX10_readRule 192 = .ok (.getfield 253, 3) := by decide +kernel
theorem dX10_readRule_195 : decode cX10_readRule 195 = .ok (.iconst 1, 1) := by decide +kernel
theorem dX10_readRule_196 : decode cX10_readRule 196 = .ok (.iadd, 1) := by decide +kernel
theorem dX10_readRule_197 : decode cX10_readRule 197 = .ok (.putfield 253, 3) := by decide +kernel
theorem dX10_readRule_200 : decode cX10_readRule 200 = .ok (.aload_n 0, 1) := by decide +kernel
theorem dX10_readRule_201 : decode cX10_readRule 201 = .ok (.iload_n 3, 1) := by decide +kernel
theorem dX10_readRule_202 : decode cX10_readRule 202 = .ok (.invokevirtual 307, 3) := by decide +kernel
theorem dX10_readRule_205 : decode cX10_readRule 205 = .ok (.ifCond .ne 5, 3) := by decide +kernel
theorem dX10_readRule_208 : decode cX10_readRule 208 = .ok (.iconst 0, 1) := by decide +kernel
theorem dX10_readRule_209 : decode cX10_readRule 209 = .ok (.ireturn, 1) := by decide +kernel
theorem dX10_readRule_210 : decode cX10_readRule 210 = .ok (.aload_n 0, 1) := by decide +kernel
theorem dX10_readRule_211 : decode cX10_readRule 211 = .ok (.dup, 1) := by decide +kernel
theorem dX10_readRule_212 : decode cX10_readRule 212 = .ok (.getfield 301, 3) := by decide +kernel
theorem dX10_readRule_215 : decode cX10_readRule 215 = .ok (.iconst 1, 1) := by decide +kernel
theorem dX10_readRule_216 : decode cX10_readRule 216 = .ok (.iadd, 1) := by decide +kernel
theorem dX10_readRule_217 : decode cX10_readRule 217 = .ok (.putfield 301, 3) := by decide +kernel
theorem dX10_readRule_220 : decode cX10_readRule 220 = .ok (.iconst 1, 1) := by decide +kernel
theorem dX10_readRule_221 : decode cX10_readRule 221 = .ok (.ireturn, 1) := by decide +kernel
theorem dX10_readAll_0 : decode cX10_readAll 0 = .ok (.aload_n 0, 1) := by decide +kernel
theorem dX10_readAll_1 : decode cX10_readAll 1 = .ok (.iconst 0, 1) := by decide +kernel
theorem dX10_readAll_2 : decode cX10_readAll 2 = .ok (.putfield 259, 3) := by decide +kernel
theorem dX10_readAll_5 : decode cX10_readAll 5 = .ok (.aload_n 0, 1) := by decide +kernel
theorem dX10_readAll_6 : decode cX10_readAll 6 = .ok (.iconst (-1), 1) := by decide +kernel
theorem dX10_readAll_7 : decode cX10_readAll 7 = .ok (.putfield 74, 3) := by decide +kernel
theorem dX10_readAll_10 : decode cX10_readAll 10 = .ok (.aload_n 0, 1) := by decide +kernel
theorem dX10_readAll_11 : decode cX10_readAll 11 = .ok (.iconst 0, 1) := by decide +kernel
theorem dX10_readAll_12 : decode cX10_readAll 12 = .ok (.putfield 301, 3) := by decide +kernel
theorem dX10_readAll_15 : decode cX10_readAll 15 = .ok (.aload_n 0, 1) := by decide +kernel
theorem dX10_readAll_16 : decode cX10_readAll 16 = .ok (.iconst 0, 1) := by decide +kernel
theorem dX10_readAll_17 : decode cX10_readAll 17 = .ok (.putfield 253, 3) := by decide +kernel
theorem dX10_readAll_20 : decode cX10_readAll 20 = .ok (.aload_n 0, 1) := by decide +kernel
theorem dX10_readAll_21 : decode cX10_readAll 21 = .ok (.getfield 256, 3) := by decide +kernel
theorem dX10_readAll_24 : decode cX10_readAll 24 = .ok (.ifCond .ne 5, 3) := by decide +kernel
theorem dX10_readAll_27 : decode cX10_readAll 27 = .ok (.iconst 1, 1) := by decide +kernel
theorem dX10_readAll_28 : decode cX10_readAll 28 = .ok (.ireturn, 1) := by decide +kernel
theorem dX10_readAll_29 : decode cX10_readAll 29 = .ok (.iconst 1, 1) := by decide +kernel
theorem dX10_readAll_30 : decode cX10_readAll 30 = .ok (.istore_n 1, 1) := by decide +kernel
theorem dX10_readAll_31 : decode cX10_readAll 31 = .ok (.iload_n 1, 1) := by decide +kernel
theorem dX10_readAll_32 : decode cX10_readAll 32 = .ok (.ifCond .eq 44, 3) := by decide +kernel
theorem dX10_readAll_35 : decode cX10_readAll 35 = .ok (.aload_n 0, 1) := by decide +kernel
theorem dX10_readAll_36 : decode cX10_readAll 36 = .ok (.invokevirtual 310, 3) := by decide +kernel
theorem dX10_readAll_39 : decode cX10_readAll 39 = .ok (.ifCond .ne 5, 3) := by decide +kernel
theorem dX10_readAll_42 : decode cX10_readAll 42 = .ok (.iconst 0, 1) := by decide +kernel
theorem dX10_readAll_43 : decode cX10_readAll 43 = .ok (.ireturn, 1) := by decide +kernel
theorem dX10_readAll_44 : decode cX10_readAll 44 = .ok (.aload_n 0, 1) := by decide +kernel
theorem dX10_readAll_45 : decode cX10_readAll 45 = .ok (.invokevirtual 262, 3) := by decide +kernel
theorem dX10_readAll_48 : decode cX10_readAll 48 = .ok (.bipush 59, 2) := by decide +kernel
theorem dX10_readAll_50 : decode cX10_readAll 50 = .ok (.if_icmp .ne 7, 3) := by decide +kernel
theorem dX10_readAll_53 : decode cX10_readAll 53 = .ok (.iconst 1, 1) := by decide +kernel
theorem dX10_readAll_54 : decode cX10_readAll 54 = .ok (.goto 4, 3) := by decide +kernel
theorem dX10_readAll_57 : decode cX10_readAll 57 = .ok (.iconst 0, 1) := by decide +kernel
theorem dX10_readAll_58 : decode cX10_readAll 58 = .ok (.istore_n 1, 1) := by decide +kernel
theorem dX10_readAll_59 : decode cX10_readAll 59 = .ok (.iload_n 1, 1) := by decide +kernel
theorem dX10_readAll_60 : decode cX10_readAll 60 = .ok (.ifCond .eq (-29), 3) := by decide +kernel
theorem dX10_readAll_63 : decode cX10_readAll 63 = .ok (.aload_n 0, 1) := by decide +kernel
theorem dX10_readAll_64 : decode cX10_readAll 64 = .ok (.dup, 1) := by decide +kernel
theorem dX10_readAll_65 : decode cX10_readAll 65 = .ok (.getfield 253, 3) := by decide +kernel
theorem dX10_readAll_68 : decode cX10_readAll 68 = .ok (.iconst 1, 1) := by decide +kernel
theorem dX10_readAll_69 : decode cX10_readAll 69 = .ok (.iadd, 1) := by decide +kernel
theorem dX10_readAll_70 : decode cX10_readAll 70 = .ok (.putfield 253, 3) := by decide +kernel
theorem dX10_readAll_73 : decode cX10_readAll 73 = .ok (.goto (-42), 3) := by decide +kernel
theorem dX10_readAll_76 : decode cX10_readAll 76 = .ok (.iconst 1, 1) := by decide +kernel
theorem dX10_readAll_77 : decode cX10_readAll 77 = .ok (.ireturn, 1) := by decide +kernel
theorem dX10_rules_0 : decode cX10_rules 0 = .ok (.aload_n 0, 1) := by decide +kernel
theorem dX10_rules_1 : decode cX10_rules 1 = .ok (.aload_n 0, 1) := by decide +kernel
theorem dX10_rules_2 : decode cX10_rules 2 = .ok (.getfield 241, 3) := by decide +kernel
theorem dX10_rules_5 : decode cX10_rules 5 = .ok (.putfield 256, 3) := by decide +kernel
theorem dX10_rules_8 : decode cX10_rules 8 = .ok (.aload_n 0, 1) := by decide +kernel
theorem dX10_rules_9 : decode cX10_rules 9 = .ok (.iconst 0, 1) := by decide +kernel
theorem dX10_rules_10 : decode cX10_rules 10 = .ok (.putfield 241, 3) := by decide +kernel
theorem dX10_rules_13 : decode cX10_rules 13 = .ok (.aload_n 0, 1) := by decide +kernel
theorem dX10_rules_14 : decode cX10_rules 14 = .ok (.invokevirtual 314, 3) := by decide +kernel
theorem dX10_rules_17 : decode cX10_rules 17 = .ok (.ifCond .ne 5, 3) := by decide +kernel
theorem dX10_rules_20 : decode cX10_rules 20 = .ok (.iconst (-1), 1) := by decide +kernel
theorem dX10_rules_21 : decode cX10_rules 21 = .ok (.ireturn, 1) := by decide +kernel
theorem dX10_rules_22 : decode cX10_rules 22 = .ok (.aload_n 0, 1) := by decide +kernel
theorem dX10_rules_23 : decode cX10_rules 23 = .ok (.invokevirtual 250, 3) := by decide +kernel
theorem dX10_rules_26 : decode cX10_rules 26 = .ok (.aload_n 0, 1) := by decide +kernel
theorem dX10_rules_27 : decode cX10_rules 27 = .ok (.getfield 7, 3) := by decide +kernel
theorem dX10_rules_30 : decode cX10_rules 30 = .ok (.iconst 4, 1) := by decide +kernel
theorem dX10_rules_31 : decode cX10_rules 31 = .ok (.aload_n 0, 1) := by decide +kernel
theorem dX10_rules_32 : decode cX10_rules 32 = .ok (.getfield 301, 3) := by decide +kernel
theorem dX10_rules_35 : decode cX10_rules 35 = .ok (.iastore, 1) := by decide +kernel
theorem dX10_rules_36 : decode cX10_rules 36 = .ok (.aload_n 0, 1) := by decide +kernel
theorem dX10_rules_37 : decode cX10_rules 37 = .ok (.getfield 7, 3) := by decide +kernel
theorem dX10_rules_40 : decode cX10_rules 40 = .ok (.bipush 7, 2) := by decide +kernel
theorem dX10_rules_42 : decode cX10_rules 42 = .ok (.iconst 0, 1) := by decide +kernel
theorem dX10_rules_43 : decode cX10_rules 43 = .ok (.iastore, 1) := by decide +kernel
theorem dX10_rules_44 : decode cX10_rules 44 = .ok (.iconst 0, 1) := by decide +kernel
theorem dX10_rules_45 : decode cX10_rules 45 = .ok (.istore_n 1, 1) := by decide +kernel
theorem dX10_rules_46 : decode cX10_rules 46 = .ok (.iload_n 1, 1) := by decide +kernel
theorem dX10_rules_47 : decode cX10_rules 47 = .ok (.sipush 240, 3) := by decide +kernel
theorem dX10_rules_50 : decode cX10_rules 50 = .ok (.if_icmp .ge 40, 3) := by decide +kernel
theorem dX10_rules_53 : decode cX10_rules 53 = .ok (.aload_n 0, 1) := by decide +kernel
theorem dX10_rules_54 : decode cX10_rules 54 = .ok (.getfield 7, 3) := by decide +kernel
theorem dX10_rules_57 : decode cX10_rules 57 = .ok (.sipush 514, 3) := by decide +kernel
theorem dX10_rules_60 : decode cX10_rules 60 = .ok (.iload_n 1, 1) := by decide +kernel
theorem dX10_rules_61 : decode cX10_rules 61 = .ok (.iadd, 1) := by decide +kernel
theorem dX10_rules_62 : decode cX10_rules 62 = .ok (.iload_n 1, 1) := by decide +kernel
theorem dX10_rules_63 : decode cX10_rules 63 = .ok (.bipush 40, 2) := by decide +kernel
theorem dX10_rules_65 : decode cX10_rules 65 = .ok (.aload_n 0, 1) := by decide +kernel
theorem dX10_rules_66 : decode cX10_rules 66 = .ok (.getfield 301, 3) := by decide +kernel
theorem dX10_rules_69 : decode cX10_rules 69 = .ok (.imul, 1) := by decide +kernel
theorem dX10_rules_70 : decode cX10_rules 70 = .ok (.if_icmp .ge 12, 3) := by decide +kernel
theorem dX10_rules_73 : decode cX10_rules 73 = .ok (.aload_n 0, 1) := by decide +kernel
theorem dX10_rules_74 : decode cX10_rules 74 = .ok (.getfield 71, 3) := by decide +kernel
theorem dX10_rules_77 : decode cX10_rules 77 = .ok (.iload_n 1, 1) := by decide +kernel
theorem dX10_rules_78 : decode cX10_rules 78 = .ok (.iaload, 1) := by decide +kernel
theorem dX10_rules_79 : decode cX10_rules 79 = .ok (.goto 4, 3) := by decide +kernel
theorem dX10_rules_82 : decode cX10_rules 82 = .ok (.iconst 0, 1) := by decide +kernel
theorem dX10_rules_83 : decode cX10_rules 83 = .ok (.iastore, 1) := by decide +kernel
theorem dX10_rules_84 : decode cX10_rules 84 = .ok (.iinc 1 1, 3) := by decide +kernel
theorem dX10_rules_87 : decode cX10_rules 87 = .ok (.goto (-41), 3) := by decide +kernel
theorem dX10_rules_90 : decode cX10_rules 90 = .ok (.iconst 0, 1) := by decide +kernel
theorem dX10_rules_91 : decode cX10_rules 91 = .ok (.istore_n 1, 1) := by decide +kernel
theorem dX10_rules_92 : decode cX10_rules 92 = .ok (.iload_n 1, 1) := by decide +kernel
theorem dX10_rules_93 : decode cX10_rules 93 = .ok (.sipush 300, 3) := by decide +kernel
theorem dX10_rules_96 : decode cX10_rules 96 = .ok (.if_icmp .ge 37, 3) := by decide +kernel
theorem dX10_rules_99 : decode cX10_rules 99 = .ok (.aload_n 0, 1) := by decide +kernel
theorem dX10_rules_100 : decode cX10_rules 100 = .ok (.getfield 7, 3) := by decide +kernel
theorem dX10_rules_103 : decode cX10_rules 103 = .ok (.sipush 754, 3) := by decide +kernel
theorem dX10_rules_106 : decode cX10_rules 106 = .ok (.iload_n 1, 1) := by decide +kernel
theorem dX10_rules_107 : decode cX10_rules 107 = .ok (.iadd, 1) := by decide +kernel
theorem dX10_rules_108 : decode cX10_rules 108 = .ok (.iload_n 1, 1) := by decide +kernel
theorem dX10_rules_109 : decode cX10_rules 109 = .ok (.aload_n 0, 1) := by decide +kernel
theorem dX10_rules_110 : decode cX10_rules 110 = .ok (.getfield 256, 3) := by decide +kernel
theorem dX10_rules_113 : decode cX10_rules 113 = .ok (.if_icmp .ge 12, 3) := by decide +kernel
theorem dX10_rules_116 : decode cX10_rules 116 = .ok (.aload_n 0, 1) := by decide +kernel
theorem dX10_rules_117 : decode cX10_rules 117 = .ok (.getfield 68, 3) := by decide +kernel
theorem dX10_rules_120 : decode cX10_rules 120 = .ok (.iload_n 1, 1) := by decide +kernel
theorem dX10_rules_121 : decode cX10_rules 121 = .ok (.iaload, 1) := by decide +kernel
theorem dX10_rules_122 : decode cX10_rules 122 = .ok (.goto 4, 3) := by decide +kernel
theorem dX10_rules_125 : decode cX10_rules 125 = .ok (.iconst 0, 1) := by decide +kernel
theorem dX10_rules_126 : decode cX10_rules 126 = .ok (.iastore, 1) := by decide +kernel
theorem dX10_rules_127 : decode cX10_rules 127 = .ok (.iinc 1 1, 3) := by decide +kernel
theorem dX10_rules_130 : decode cX10_rules 130 = .ok (.goto (-38), 3) := by decide +kernel
theorem dX10_rules_133 : decode cX10_rules 133 = .ok (.iconst 0, 1) := by decide +kernel
theorem dX10_rules_134 : decode cX10_rules 134 = .ok (.istore_n 1, 1) := by decide +kernel
theorem dX10_rules_135 : decode cX10_rules 135 = .ok (.iload_n 1, 1) := by decide +kernel
theorem dX10_rules_136 : decode cX10_rules 136 = .ok (.bipush 16, 2) := by decide +kernel
theorem dX10_rules_138 : decode cX10_rules 138 = .ok (.if_icmp .ge 20, 3) := by decide +kernel
theorem dX10_rules_141 : decode cX10_rules 141 = .ok (.aload_n 0, 1) := by decide +kernel
theorem dX10_rules_142 : decode cX10_rules 142 = .ok (.getfield 7, 3) := by decide +kernel
theorem dX10_rules_145 : decode cX10_rules 145 = .ok (.sipush 426, 3) := by decide +kernel
theorem dX10_rules_148 : decode cX10_rules 148 = .ok (.iload_n 1, 1) := by decide +kernel
theorem dX10_rules_149 : decode cX10_rules 149 = .ok (.iadd, 1) := by decide +kernel
theorem dX10_rules_150 : decode cX10_rules 150 = .ok (.iconst 0, 1) := by decide +kernel
theorem dX10_rules_151 : decode cX10_rules 151 = .ok (.iastore, 1) := by decide +kernel
theorem dX10_rules_152 : decode cX10_rules 152 = .ok (.iinc 1 1, 3) := by decide +kernel
theorem dX10_rules_155 : decode cX10_rules 155 = .ok (.goto (-20), 3) := by decide +kernel
theorem dX10_rules_158 : decode cX10_rules 158 = .ok (.aload_n 0, 1) := by decide +kernel
theorem dX10_rules_159 : decode cX10_rules 159 = .ok (.getfield 301, 3) := by decide +kernel
theorem dX10_rules_162 : decode cX10_rules 162 = .ok (.ireturn, 1) := by decide +kernel
theorem dX10_fault_0 : decode cX10_fault 0 = .ok (.iload_n 1, 1) := by decide +kernel
theorem dX10_fault_1 : decode cX10_fault 1 = .ok (.ifCond .ne 10, 3) := by decide +kernel
theorem dX10_fault_4 : decode cX10_fault 4 = .ok (.aload_n 0, 1) := by decide +kernel
theorem dX10_fault_5 : decode cX10_fault 5 = .ok (.getfield 259, 3) := by decide +kernel
theorem dX10_fault_8 : decode cX10_fault 8 = .ok (.goto 16, 3) := by decide +kernel
theorem dX10_fault_11 : decode cX10_fault 11 = .ok (.iload_n 1, 1) := by decide +kernel
theorem dX10_fault_12 : decode cX10_fault 12 = .ok (.iconst 1, 1) := by decide +kernel
theorem dX10_fault_13 : decode cX10_fault 13 = .ok (.if_icmp .ne 10, 3) := by decide +kernel
theorem dX10_fault_16 : decode cX10_fault 16 = .ok (.aload_n 0, 1) := by decide +kernel
theorem dX10_fault_17 : decode cX10_fault 17 = .ok (.getfield 74, 3) := by decide +kernel
theorem dX10_fault_20 : decode cX10_fault 20 = .ok (.goto 4, 3) := by decide +kernel
theorem dX10_fault_23 : decode cX10_fault 23 = .ok (.iconst (-1), 1) := by decide +kernel
theorem dX10_fault_24 : decode cX10_fault 24 = .ok (.ireturn, 1) := by decide +kernel
theorem dX10_on_0 : decode cX10_on 0 = .ok (.aload_n 0, 1) := by decide +kernel
theorem dX10_on_1 : decode cX10_on 1 = .ok (.iload_n 1, 1) := by decide +kernel
theorem dX10_on_2 : decode cX10_on 2 = .ok (.invokevirtual 317, 3) := by decide +kernel
theorem dX10_on_5 : decode cX10_on 5 = .ok (.ifCond .eq 22, 3) := by decide +kernel
theorem dX10_on_8 : decode cX10_on 8 = .ok (.aload_n 0, 1) := by decide +kernel
theorem dX10_on_9 : decode cX10_on 9 = .ok (.iload_n 1, 1) := by decide +kernel
theorem dX10_on_10 : decode cX10_on 10 = .ok (.iconst 1, 1) := by decide +kernel
theorem dX10_on_11 : decode cX10_on 11 = .ok (.invokevirtual 127, 3) := by decide +kernel
theorem dX10_on_14 : decode cX10_on 14 = .ok (.iconst 1, 1) := by decide +kernel
theorem dX10_on_15 : decode cX10_on 15 = .ok (.if_icmp .ne 7, 3) := by decide +kernel
theorem dX10_on_18 : decode cX10_on 18 = .ok (.iconst 1, 1) := by decide +kernel
theorem dX10_on_19 : decode cX10_on 19 = .ok (.goto 4, 3) := by decide +kernel
theorem dX10_on_22 : decode cX10_on 22 = .ok (.iconst 0, 1) := by decide +kernel
theorem dX10_on_23 : decode cX10_on 23 = .ok (.iload_n 2, 1) := by decide +kernel
theorem dX10_on_24 : decode cX10_on 24 = .ok (.if_icmp .ne 5, 3) := by decide +kernel
theorem dX10_on_27 : decode cX10_on 27 = .ok (.iconst 0, 1) := by decide +kernel
theorem dX10_on_28 : decode cX10_on 28 = .ok (.ireturn, 1) := by decide +kernel
theorem dX10_on_29 : decode cX10_on 29 = .ok (.aload_n 0, 1) := by decide +kernel
theorem dX10_on_30 : decode cX10_on 30 = .ok (.invokevirtual 250, 3) := by decide +kernel
theorem dX10_on_33 : decode cX10_on 33 = .ok (.aload_n 0, 1) := by decide +kernel
theorem dX10_on_34 : decode cX10_on 34 = .ok (.getfield 7, 3) := by decide +kernel
theorem dX10_on_37 : decode cX10_on 37 = .ok (.sipush 514, 3) := by decide +kernel
theorem dX10_on_40 : decode cX10_on 40 = .ok (.bipush 40, 2) := by decide +kernel
theorem dX10_on_42 : decode cX10_on 42 = .ok (.iload_n 1, 1) := by decide +kernel
theorem dX10_on_43 : decode cX10_on 43 = .ok (.imul, 1) := by decide +kernel
theorem dX10_on_44 : decode cX10_on 44 = .ok (.iadd, 1) := by decide +kernel
theorem dX10_on_45 : decode cX10_on 45 = .ok (.iconst 1, 1) := by decide +kernel
theorem dX10_on_46 : decode cX10_on 46 = .ok (.iadd, 1) := by decide +kernel
theorem dX10_on_47 : decode cX10_on 47 = .ok (.iload_n 2, 1) := by decide +kernel
theorem dX10_on_48 : decode cX10_on 48 = .ok (.ifCond .eq 7, 3) := by decide +kernel
theorem dX10_on_51 : decode cX10_on 51 = .ok (.iconst 1, 1) := by decide +kernel
theorem dX10_on_52 : decode cX10_on 52 = .ok (.goto 4, 3) := by decide +kernel
theorem dX10_on_55 : decode cX10_on 55 = .ok (.iconst 0, 1) := by decide +kernel
theorem dX10_on_56 : decode cX10_on 56 = .ok (.iastore, 1) := by decide +kernel
theorem dX10_on_57 : decode cX10_on 57 = .ok (.iconst 1, 1) := by decide +kernel
theorem dX10_on_58 : decode cX10_on 58 = .ok (.ireturn, 1) := by decide +kernel
theorem dX10_silence_0 : decode cX10_silence 0 = .ok (.iload_n 1, 1) := by decide +kernel
theorem dX10_silence_1 : decode cX10_silence 1 = .ok (.iconst 0, 1) := by decide +kernel
theorem dX10_silence_2 : decode cX10_silence 2 = .ok (.aload_n 0, 1) := by decide +kernel
theorem dX10_silence_3 : decode cX10_silence 3 = .ok (.getfield 7, 3) := by decide +kernel
theorem dX10_silence_6 : decode cX10_silence 6 = .ok (.iconst 2, 1) := by decide +kernel
theorem dX10_silence_7 : decode cX10_silence 7 = .ok (.iaload, 1) := by decide +kernel
theorem dX10_silence_8 : decode cX10_silence 8 = .ok (.iconst 1, 1) := by decide +kernel
theorem dX10_silence_9 : decode cX10_silence 9 = .ok (.isub, 1) := by decide +kernel
theorem dX10_silence_10 : decode cX10_silence 10 = .ok (.invokestatic 103, 3) := by decide +kernel
theorem dX10_silence_13 : decode cX10_silence 13 = .ok (.ifCond .eq 30, 3) := by decide +kernel
theorem dX10_silence_16 : decode cX10_silence 16 = .ok (.iload_n 2, 1) := by decide +kernel
theorem dX10_silence_17 : decode cX10_silence 17 = .ok (.iload_n 1, 1) := by decide +kernel
theorem dX10_silence_18 : decode cX10_silence 18 = .ok (.iconst 1, 1) := by decide +kernel
theorem dX10_silence_19 : decode cX10_silence 19 = .ok (.iadd, 1) := by decide +kernel
theorem dX10_silence_20 : decode cX10_silence 20 = .ok (.aload_n 0, 1) := by decide +kernel
theorem dX10_silence_21 : decode cX10_silence 21 = .ok (.getfield 7, 3) := by decide +kernel
theorem dX10_silence_24 : decode cX10_silence 24 = .ok (.iconst 2, 1) := by decide +kernel
theorem dX10_silence_25 : decode cX10_silence 25 = .ok (.iaload, 1) := by decide +kernel
theorem dX10_silence_26 : decode cX10_silence 26 = .ok (.invokestatic 103, 3) := by decide +kernel
theorem dX10_silence_29 : decode cX10_silence 29 = .ok (.ifCond .eq 14, 3) := by decide +kernel
theorem dX10_silence_32 : decode cX10_silence 32 = .ok (.aload_n 0, 1) := by decide +kernel
theorem dX10_silence_33 : decode cX10_silence 33 = .ok (.getfield 7, 3) := by decide +kernel
theorem dX10_silence_36 : decode cX10_silence 36 = .ok (.iconst 3, 1) := by decide +kernel
theorem dX10_silence_37 : decode cX10_silence 37 = .ok (.iaload, 1) := by decide +kernel
theorem dX10_silence_38 : decode cX10_silence 38 = .ok (.bipush 8, 2) := by decide +kernel
theorem dX10_silence_40 : decode cX10_silence 40 = .ok (.if_icmp .ne 5, 3) := by decide +kernel
theorem dX10_silence_43 : decode cX10_silence 43 = .ok (.iconst (-1), 1) := by decide +kernel
theorem dX10_silence_44 : decode cX10_silence 44 = .ok (.ireturn, 1) := by decide +kernel
theorem dX10_silence_45 : decode cX10_silence 45 = .ok (.aload_n 0, 1) := by decide +kernel
theorem dX10_silence_46 : decode cX10_silence 46 = .ok (.invokevirtual 250, 3) := by decide +kernel
theorem dX10_silence_49 : decode cX10_silence 49 = .ok (.aload_n 0, 1) := by decide +kernel
theorem dX10_silence_50 : decode cX10_silence 50 = .ok (.getfield 7, 3) := by decide +kernel
theorem dX10_silence_53 : decode cX10_silence 53 = .ok (.sipush 410, 3) := by decide +kernel
theorem dX10_silence_56 : decode cX10_silence 56 = .ok (.iconst 2, 1) := by decide +kernel
theorem dX10_silence_57 : decode cX10_silence 57 = .ok (.aload_n 0, 1) := by decide +kernel
theorem dX10_silence_58 : decode cX10_silence 58 = .ok (.getfield 7, 3) := by decide +kernel
theorem dX10_silence_61 : decode cX10_silence 61 = .ok (.iconst 3, 1) := by decide +kernel
theorem dX10_silence_62 : decode cX10_silence 62 = .ok (.iaload, 1) := by decide +kernel
theorem dX10_silence_63 : decode cX10_silence 63 = .ok (.imul, 1) := by decide +kernel
theorem dX10_silence_64 : decode cX10_silence 64 = .ok (.iadd, 1) := by decide +kernel
theorem dX10_silence_65 : decode cX10_silence 65 = .ok (.iload_n 1, 1) := by decide +kernel
theorem dX10_silence_66 : decode cX10_silence 66 = .ok (.iastore, 1) := by decide +kernel
theorem dX10_silence_67 : decode cX10_silence 67 = .ok (.aload_n 0, 1) := by decide +kernel
theorem dX10_silence_68 : decode cX10_silence 68 = .ok (.getfield 7, 3) := by decide +kernel
theorem dX10_silence_71 : decode cX10_silence 71 = .ok (.sipush 410, 3) := by decide +kernel
theorem dX10_silence_74 : decode cX10_silence 74 = .ok (.iconst 2, 1) := by decide +kernel
theorem dX10_silence_75 : decode cX10_silence 75 = .ok (.aload_n 0, 1) := by decide +kernel
theorem dX10_silence_76 : decode cX10_silence 76 = .ok (.getfield 7, 3) := by decide +kernel
theorem dX10_silence_79 : decode cX10_silence 79 = .ok (.iconst 3, 1) := by decide +kernel
theorem dX10_silence_80 : decode cX10_silence 80 = .ok (.iaload, 1) := by decide +kernel
theorem dX10_silence_81 : decode cX10_silence 81 = .ok (.imul, 1) := by decide +kernel
theorem dX10_silence_82 : decode cX10_silence 82 = .ok (.iadd, 1) := by decide +kernel
theorem dX10_silence_83 : decode cX10_silence 83 = .ok (.iconst 1, 1) := by decide +kernel
theorem dX10_silence_84 : decode cX10_silence 84 = .ok (.iadd, 1) := by decide +kernel
theorem dX10_silence_85 : decode cX10_silence 85 = .ok (.iload_n 2, 1) := by decide +kernel
theorem dX10_silence_86 : decode cX10_silence 86 = .ok (.iastore, 1) := by decide +kernel
theorem dX10_silence_87 : decode cX10_silence 87 = .ok (.aload_n 0, 1) := by decide +kernel
theorem dX10_silence_88 : decode cX10_silence 88 = .ok (.getfield 7, 3) := by decide +kernel
theorem dX10_silence_91 : decode cX10_silence 91 = .ok (.iconst 3, 1) := by decide +kernel
theorem dX10_silence_92 : decode cX10_silence 92 = .ok (.dup2, 1) := by decide +kernel
theorem dX10_silence_93 : decode cX10_silence 93 = .ok (.iaload, 1) := by decide +kernel
theorem dX10_silence_94 : decode cX10_silence 94 = .ok (.iconst 1, 1) := by decide +kernel
theorem dX10_silence_95 : decode cX10_silence 95 = .ok (.iadd, 1) := by decide +kernel
theorem dX10_silence_96 : decode cX10_silence 96 = .ok (.iastore, 1) := by decide +kernel
theorem dX10_silence_97 : decode cX10_silence 97 = .ok (.aload_n 0, 1) := by decide +kernel
theorem dX10_silence_98 : decode cX10_silence 98 = .ok (.getfield 7, 3) := by decide +kernel
theorem dX10_silence_101 : decode cX10_silence 101 = .ok (.iconst 3, 1) := by decide +kernel
theorem dX10_silence_102 : decode cX10_silence 102 = .ok (.iaload, 1) := by decide +kernel
theorem dX10_silence_103 : decode cX10_silence 103 = .ok (.ireturn, 1) := by decide +kernel
theorem dX10_hear_0 : decode cX10_hear 0 = .ok (.iload_n 1, 1) := by decide +kernel
theorem dX10_hear_1 : decode cX10_hear 1 = .ok (.iconst 0, 1) := by decide +kernel
theorem dX10_hear_2 : decode cX10_hear 2 = .ok (.aload_n 0, 1) := by decide +kernel
theorem dX10_hear_3 : decode cX10_hear 3 = .ok (.getfield 7, 3) := by decide +kernel
theorem dX10_hear_6 : decode cX10_hear 6 = .ok (.iconst 3, 1) := by decide +kernel
theorem dX10_hear_7 : decode cX10_hear 7 = .ok (.iaload, 1) := by decide +kernel
theorem dX10_hear_8 : decode cX10_hear 8 = .ok (.iconst 1, 1) := by decide +kernel
theorem dX10_hear_9 : decode cX10_hear 9 = .ok (.isub, 1) := by decide +kernel
theorem dX10_hear_10 : decode cX10_hear 10 = .ok (.invokestatic 103, 3) := by decide +kernel
theorem dX10_hear_13 : decode cX10_hear 13 = .ok (.ifCond .ne 5, 3) := by decide +kernel
theorem dX10_hear_16 : decode cX10_hear 16 = .ok (.iconst 0, 1) := by decide +kernel
theorem dX10_hear_17 : decode cX10_hear 17 = .ok (.ireturn, 1) := by decide +kernel
theorem dX10_hear_18 : decode cX10_hear 18 = .ok (.aload_n 0, 1) := by decide +kernel
theorem dX10_hear_19 : decode cX10_hear 19 = .ok (.invokevirtual 250, 3) := by decide +kernel
theorem dX10_hear_22 : decode cX10_hear 22 = .ok (.sipush 410, 3) := by decide +kernel
theorem dX10_hear_25 : decode cX10_hear 25 = .ok (.iconst 2, 1) := by decide +kernel
theorem dX10_hear_26 : decode cX10_hear 26 = .ok (.iload_n 1, 1) := by decide +kernel
theorem dX10_hear_27 : decode cX10_hear 27 = .ok (.imul, 1) := by decide +kernel
theorem dX10_hear_28 : decode cX10_hear 28 = .ok (.iadd, 1) := by decide +kernel
theorem dX10_hear_29 : decode cX10_hear 29 = .ok (.istore_n 2, 1) := by decide +kernel
theorem dX10_hear_30 : decode cX10_hear 30 = .ok (.iload_n 2, 1) := by decide +kernel
theorem dX10_hear_31 : decode cX10_hear 31 = .ok (.sipush 410, 3) := by decide +kernel
theorem dX10_hear_34 : decode cX10_hear 34 = .ok (.iconst 2, 1) := by decide +kernel
theorem dX10_hear_35 : decode cX10_hear 35 = .ok (.aload_n 0, 1) := by decide +kernel
theorem dX10_hear_36 : decode cX10_hear 36 = .ok (.getfield 7, 3) := by decide +kernel
theorem dX10_hear_39 : decode cX10_hear 39 = .ok (.iconst 3, 1) := by decide +kernel
theorem dX10_hear_40 : decode cX10_hear 40 = .ok (.iaload, 1) := by decide +kernel
theorem dX10_hear_41 : decode cX10_hear 41 = .ok (.imul, 1) := by decide +kernel
theorem dX10_hear_42 : decode cX10_hear 42 = .ok (.iadd, 1) := by decide +kernel
theorem dX10_hear_43 : decode cX10_hear 43 = .ok (.iconst 2, 1) := by decide +kernel
theorem dX10_hear_44 : decode cX10_hear 44 = .ok (.isub, 1) := by decide +kernel
theorem dX10_hear_45 : decode cX10_hear 45 = .ok (.if_icmp .ge 23, 3) := by decide +kernel
theorem dX10_hear_48 : decode cX10_hear 48 = .ok (.aload_n 0, 1) := by decide +kernel
theorem dX10_hear_49 : decode cX10_hear 49 = .ok (.getfield 7, 3) := by decide +kernel
theorem dX10_hear_52 : decode cX10_hear 52 = .ok (.iload_n 2, 1) := by decide +kernel
theorem dX10_hear_53 : decode cX10_hear 53 = .ok (.aload_n 0, 1) := by decide +kernel
theorem dX10_hear_54 : decode cX10_hear 54 = .ok (.getfield 7, 3) := by decide +kernel
theorem dX10_hear_57 : decode cX10_hear 57 = .ok (.iload_n 2, 1) := by decide +kernel
theorem dX10_hear_58 : decode cX10_hear 58 = .ok (.iconst 2, 1) := by decide +kernel
theorem dX10_hear_59 : decode cX10_hear 59 = .ok (.iadd, 1) := by decide +kernel
theorem dX10_hear_60 : decode cX10_hear 60 = .ok (.iaload, 1) := by decide +kernel
theorem dX10_hear_61 : decode cX10_hear 61 = .ok (.iastore, 1) := by decide +kernel
theorem dX10_hear_62 : decode cX10_hear 62 = .ok (.iinc 2 1, 3) := by decide +kernel
theorem dX10_hear_65 : decode cX10_hear 65 = .ok (.goto (-35), 3) := by decide +kernel
theorem dX10_hear_68 : decode cX10_hear 68 = .ok (.aload_n 0, 1) := by decide +kernel
theorem dX10_hear_69 : decode cX10_hear 69 = .ok (.getfield 7, 3) := by decide +kernel
theorem dX10_hear_72 : decode cX10_hear 72 = .ok (.iconst 3, 1) := by decide +kernel
theorem dX10_hear_73 : decode cX10_hear 73 = .ok (.dup2, 1) := by decide +kernel
theorem dX10_hear_74 : decode cX10_hear 74 = .ok (.iaload, 1) := by decide +kernel
theorem dX10_hear_75 : decode cX10_hear 75 = .ok (.iconst 1, 1) := by decide +kernel
theorem dX10_hear_76 : decode cX10_hear 76 = .ok (.isub, 1) := by decide +kernel
theorem dX10_hear_77 : decode cX10_hear 77 = .ok (.iastore, 1) := by decide +kernel
theorem dX10_hear_78 : decode cX10_hear 78 = .ok (.aload_n 0, 1) := by decide +kernel
theorem dX10_hear_79 : decode cX10_hear 79 = .ok (.getfield 7, 3) := by decide +kernel
theorem dX10_hear_82 : decode cX10_hear 82 = .ok (.sipush 410, 3) := by decide +kernel
theorem dX10_hear_85 : decode cX10_hear 85 = .ok (.iconst 2, 1) := by decide +kernel
theorem dX10_hear_86 : decode cX10_hear 86 = .ok (.aload_n 0, 1) := by decide +kernel
theorem dX10_hear_87 : decode cX10_hear 87 = .ok (.getfield 7, 3) := by decide +kernel
theorem dX10_hear_90 : decode cX10_hear 90 = .ok (.iconst 3, 1) := by decide +kernel
theorem dX10_hear_91 : decode cX10_hear 91 = .ok (.iaload, 1) := by decide +kernel
theorem dX10_hear_92 : decode cX10_hear 92 = .ok (.imul, 1) := by decide +kernel
theorem dX10_hear_93 : decode cX10_hear 93 = .ok (.iadd, 1) := by decide +kernel
theorem dX10_hear_94 : decode cX10_hear 94 = .ok (.iconst 0, 1) := by decide +kernel
theorem dX10_hear_95 : decode cX10_hear 95 = .ok (.iastore, 1) := by decide +kernel
theorem dX10_hear_96 : decode cX10_hear 96 = .ok (.aload_n 0, 1) := by decide +kernel
theorem dX10_hear_97 : decode cX10_hear 97 = .ok (.getfield 7, 3) := by decide +kernel
theorem dX10_hear_100 : decode cX10_hear 100 = .ok (.sipush 410, 3) := by decide +kernel
theorem dX10_hear_103 : decode cX10_hear 103 = .ok (.iconst 2, 1) := by decide +kernel
theorem dX10_hear_104 : decode cX10_hear 104 = .ok (.aload_n 0, 1) := by decide +kernel
theorem dX10_hear_105 : decode cX10_hear 105 = .ok (.getfield 7, 3) := by decide +kernel
theorem dX10_hear_108 : decode cX10_hear 108 = .ok (.iconst 3, 1) := by decide +kernel
theorem dX10_hear_109 : decode cX10_hear 109 = .ok (.iaload, 1) := by decide +kernel
theorem dX10_hear_110 : decode cX10_hear 110 = .ok (.imul, 1) := by decide +kernel
theorem dX10_hear_111 : decode cX10_hear 111 = .ok (.iadd, 1) := by decide +kernel
theorem dX10_hear_112 : decode cX10_hear 112 = .ok (.iconst 1, 1) := by decide +kernel
theorem dX10_hear_113 : decode cX10_hear 113 = .ok (.iadd, 1) := by decide +kernel
theorem dX10_hear_114 : decode cX10_hear 114 = .ok (.iconst 0, 1) := by decide +kernel
theorem dX10_hear_115 : decode cX10_hear 115 = .ok (.iastore, 1) := by decide +kernel
theorem dX10_hear_116 : decode cX10_hear 116 = .ok (.iconst 1, 1) := by decide +kernel
theorem dX10_hear_117 : decode cX10_hear 117 = .ok (.ireturn, 1) := by decide +kernel
theorem dX10_setNow_0 : decode cX10_setNow 0 = .ok (.iload_n 2, 1) := by decide +kernel
theorem dX10_setNow_1 : decode cX10_setNow 1 = .ok (.iconst 0, 1) := by decide +kernel
theorem dX10_setNow_2 : decode cX10_setNow 2 = .ok (.iload_n 3, 1) := by decide +kernel
theorem dX10_setNow_3 : decode cX10_setNow 3 = .ok (.invokestatic 103, 3) := by decide +kernel
theorem dX10_setNow_6 : decode cX10_setNow 6 = .ok (.ifCond .ne 5, 3) := by decide +kernel
theorem dX10_setNow_9 : decode cX10_setNow 9 = .ok (.iconst 0, 1) := by decide +kernel
theorem dX10_setNow_10 : decode cX10_setNow 10 = .ok (.ireturn, 1) := by decide +kernel
theorem dX10_setNow_11 : decode cX10_setNow 11 = .ok (.aload_n 0, 1) := by decide +kernel
theorem dX10_setNow_12 : decode cX10_setNow 12 = .ok (.invokevirtual 250, 3) := by decide +kernel
theorem dX10_setNow_15 : decode cX10_setNow 15 = .ok (.aload_n 0, 1) := by decide +kernel
theorem dX10_setNow_16 : decode cX10_setNow 16 = .ok (.getfield 7, 3) := by decide +kernel
theorem dX10_setNow_19 : decode cX10_setNow 19 = .ok (.iload_n 1, 1) := by decide +kernel
theorem dX10_setNow_20 : decode cX10_setNow 20 = .ok (.iload_n 2, 1) := by decide +kernel
theorem dX10_setNow_21 : decode cX10_setNow 21 = .ok (.iastore, 1) := by decide +kernel
theorem dX10_setNow_22 : decode cX10_setNow 22 = .ok (.iconst 1, 1) := by decide +kernel
theorem dX10_setNow_23 : decode cX10_setNow 23 = .ok (.ireturn, 1) := by decide +kernel
theorem dX10_measure_0 : decode cX10_measure 0 = .ok (.aload_n 0, 1) := by decide +kernel
theorem dX10_measure_1 : decode cX10_measure 1 = .ok (.iconst 5, 1) := by decide +kernel
theorem dX10_measure_2 : decode cX10_measure 2 = .ok (.iload_n 1, 1) := by decide +kernel
theorem dX10_measure_3 : decode cX10_measure 3 = .ok (.iconst 1, 1) := by decide +kernel
theorem dX10_measure_4 : decode cX10_measure 4 = .ok (.invokevirtual 320, 3) := by decide +kernel
theorem dX10_measure_7 : decode cX10_measure 7 = .ok (.ireturn, 1) := by decide +kernel
theorem dX10_most_0 : decode cX10_most 0 = .ok (.aload_n 0, 1) := by decide +kernel
theorem dX10_most_1 : decode cX10_most 1 = .ok (.bipush 6, 2) := by decide +kernel
theorem dX10_most_3 : decode cX10_most 3 = .ok (.iload_n 1, 1) := by decide +kernel
theorem dX10_most_4 : decode cX10_most 4 = .ok (.bipush 20, 2) := by decide +kernel
theorem dX10_most_6 : decode cX10_most 6 = .ok (.invokevirtual 320, 3) := by decide +kernel
theorem dX10_most_9 : decode cX10_most 9 = .ok (.ireturn, 1) := by decide +kernel
theorem dX10_isPlace_0 : decode cX10_isPlace 0 = .ok (.iload_n 1, 1) := by decide +kernel
theorem dX10_isPlace_1 : decode cX10_isPlace 1 = .ok (.iconst 0, 1) := by decide +kernel
theorem dX10_isPlace_2 : decode cX10_isPlace 2 = .ok (.aload_n 0, 1) := by decide +kernel
theorem dX10_isPlace_3 : decode cX10_isPlace 3 = .ok (.getfield 7, 3) := by decide +kernel
theorem dX10_isPlace_6 : decode cX10_isPlace 6 = .ok (.iconst 2, 1) := by decide +kernel
theorem dX10_isPlace_7 : decode cX10_isPlace 7 = .ok (.iaload, 1) := by decide +kernel
theorem dX10_isPlace_8 : decode cX10_isPlace 8 = .ok (.iconst 1, 1) := by decide +kernel
theorem dX10_isPlace_9 : decode cX10_isPlace 9 = .ok (.isub, 1) := by decide +kernel
theorem dX10_isPlace_10 : decode cX10_isPlace 10 = .ok (.invokestatic 103, 3) := by decide +kernel
theorem dX10_isPlace_13 : decode cX10_isPlace 13 = .ok (.ireturn, 1) := by decide +kernel
theorem dX10_put_0 : decode cX10_put 0 = .ok (.aload_n 0, 1) := by decide +kernel
theorem dX10_put_1 : decode cX10_put 1 = .ok (.iload_n 1, 1) := by decide +kernel
theorem dX10_put_2 : decode cX10_put 2 = .ok (.invokevirtual 323, 3) := by decide +kernel
theorem dX10_put_5 : decode cX10_put 5 = .ok (.ifCond .eq 21, 3) := by decide +kernel
theorem dX10_put_8 : decode cX10_put 8 = .ok (.iload_n 2, 1) := by decide +kernel
theorem dX10_put_9 : decode cX10_put 9 = .ok (.invokestatic 247, 3) := by decide +kernel
theorem dX10_put_12 : decode cX10_put 12 = .ok (.ifCond .eq 14, 3) := by decide +kernel
theorem dX10_put_15 : decode cX10_put 15 = .ok (.aload_n 0, 1) := by decide +kernel
theorem dX10_put_16 : decode cX10_put 16 = .ok (.iload_n 1, 1) := by decide +kernel
theorem dX10_put_17 : decode cX10_put 17 = .ok (.iload_n 1, 1) := by decide +kernel
theorem dX10_put_18 : decode cX10_put 18 = .ok (.iconst 1, 1) := by decide +kernel
theorem dX10_put_19 : decode cX10_put 19 = .ok (.iadd, 1) := by decide +kernel
theorem dX10_put_20 : decode cX10_put 20 = .ok (.invokevirtual 193, 3) := by decide +kernel
theorem dX10_put_23 : decode cX10_put 23 = .ok (.ifCond .eq 5, 3) := by decide +kernel
theorem dX10_put_26 : decode cX10_put 26 = .ok (.iconst 0, 1) := by decide +kernel
theorem dX10_put_27 : decode cX10_put 27 = .ok (.ireturn, 1) := by decide +kernel
theorem dX10_put_28 : decode cX10_put 28 = .ok (.aload_n 0, 1) := by decide +kernel
theorem dX10_put_29 : decode cX10_put 29 = .ok (.invokevirtual 250, 3) := by decide +kernel
theorem dX10_put_32 : decode cX10_put 32 = .ok (.aload_n 0, 1) := by decide +kernel
theorem dX10_put_33 : decode cX10_put 33 = .ok (.getfield 7, 3) := by decide +kernel
theorem dX10_put_36 : decode cX10_put 36 = .ok (.bipush 10, 2) := by decide +kernel
theorem dX10_put_38 : decode cX10_put 38 = .ok (.iload_n 1, 1) := by decide +kernel
theorem dX10_put_39 : decode cX10_put 39 = .ok (.iadd, 1) := by decide +kernel
theorem dX10_put_40 : decode cX10_put 40 = .ok (.iload_n 2, 1) := by decide +kernel
theorem dX10_put_41 : decode cX10_put 41 = .ok (.iastore, 1) := by decide +kernel
theorem dX10_put_42 : decode cX10_put 42 = .ok (.aload_n 0, 1) := by decide +kernel
theorem dX10_put_43 : decode cX10_put 43 = .ok (.getfield 7, 3) := by decide +kernel
theorem dX10_put_46 : decode cX10_put 46 = .ok (.sipush 210, 3) := by decide +kernel
theorem dX10_put_49 : decode cX10_put 49 = .ok (.iload_n 1, 1) := by decide +kernel
theorem dX10_put_50 : decode cX10_put 50 = .ok (.iadd, 1) := by decide +kernel
theorem dX10_put_51 : decode cX10_put 51 = .ok (.iconst 0, 1) := by decide +kernel
theorem dX10_put_52 : decode cX10_put 52 = .ok (.iastore, 1) := by decide +kernel
theorem dX10_put_53 : decode cX10_put 53 = .ok (.iconst 1, 1) := by decide +kernel
theorem dX10_put_54 : decode cX10_put 54 = .ok (.ireturn, 1) := by decide +kernel
theorem dX10_isBelow_0 : decode cX10_isBelow 0 = .ok (.iconst 1, 1) := by decide +kernel
theorem dX10_isBelow_1 : decode cX10_isBelow 1 = .ok (.iload_n 1, 1) := by decide +kernel
theorem dX10_isBelow_2 : decode cX10_isBelow 2 = .ok (.ishl, 1) := by decide +kernel
theorem dX10_isBelow_3 : decode cX10_isBelow 3 = .ok (.istore_n 3, 1) := by decide +kernel
theorem dX10_isBelow_4 : decode cX10_isBelow 4 = .ok (.iconst 0, 1) := by decide +kernel
theorem dX10_isBelow_5 : decode cX10_isBelow 5 = .ok (.istore 4, 2) := by decide +kernel
theorem dX10_isBelow_7 : decode cX10_isBelow 7 = .ok (.iload_n 3, 1) := by decide +kernel
theorem dX10_isBelow_8 : decode cX10_isBelow 8 = .ok (.iload 4, 2) := by decide +kernel
theorem dX10_isBelow_10 : decode cX10_isBelow 10 = .ok (.if_icmp .eq 71, 3) := by decide +kernel
theorem dX10_isBelow_13 : decode cX10_isBelow 13 = .ok (.iload_n 3, 1) := by decide +kernel
theorem dX10_isBelow_14 : decode cX10_isBelow 14 = .ok (.istore 4, 2) := by decide +kernel
theorem dX10_isBelow_16 : decode cX10_isBelow 16 = .ok (.iconst 0, 1) := by decide +kernel
theorem dX10_isBelow_17 : decode cX10_isBelow 17 = .ok (.istore 5, 2) := by decide +kernel
theorem dX10_isBelow_19 : decode cX10_isBelow 19 = .ok (.iload 5, 2) := by decide +kernel
theorem dX10_isBelow_21 : decode cX10_isBelow 21 = .ok (.aload_n 0, 1) := by decide +kernel
theorem dX10_isBelow_22 : decode cX10_isBelow 22 = .ok (.getfield 7, 3) := by decide +kernel
theorem dX10_isBelow_25 : decode cX10_isBelow 25 = .ok (.bipush 7, 2) := by decide +kernel
theorem dX10_isBelow_27 : decode cX10_isBelow 27 = .ok (.iaload, 1) := by decide +kernel
theorem dX10_isBelow_28 : decode cX10_isBelow 28 = .ok (.if_icmp .ge 50, 3) := by decide +kernel
theorem dX10_isBelow_31 : decode cX10_isBelow 31 = .ok (.iload_n 3, 1) := by decide +kernel
theorem dX10_isBelow_32 : decode cX10_isBelow 32 = .ok (.aload_n 0, 1) := by decide +kernel
theorem dX10_isBelow_33 : decode cX10_isBelow 33 = .ok (.getfield 7, 3) := by decide +kernel
theorem dX10_isBelow_36 : decode cX10_isBelow 36 = .ok (.sipush 426, 3) := by decide +kernel
theorem dX10_isBelow_39 : decode cX10_isBelow 39 = .ok (.iconst 2, 1) := by decide +kernel
theorem dX10_isBelow_40 : decode cX10_isBelow 40 = .ok (.iload 5, 2) := by decide +kernel
theorem dX10_isBelow_42 : decode cX10_isBelow 42 = .ok (.imul, 1) := by decide +kernel
theorem dX10_isBelow_43 : decode cX10_isBelow 43 = .ok (.iadd, 1) := by decide +kernel
theorem dX10_isBelow_44 : decode cX10_isBelow 44 = .ok (.iconst 1, 1) := by decide +kernel
theorem dX10_isBelow_45 : decode cX10_isBelow 45 = .ok (.iadd, 1) := by decide +kernel
theorem dX10_isBelow_46 : decode cX10_isBelow 46 = .ok (.iaload, 1) := by decide +kernel
theorem dX10_isBelow_47 : decode cX10_isBelow 47 = .ok (.ishr, 1) := by decide +kernel
theorem dX10_isBelow_48 : decode cX10_isBelow 48 = .ok (.iconst 1, 1) := by decide +kernel
theorem dX10_isBelow_49 : decode cX10_isBelow 49 = .ok (.iand, 1) := by decide +kernel
theorem dX10_isBelow_50 : decode cX10_isBelow 50 = .ok (.iconst 1, 1) := by decide +kernel
theorem dX10_isBelow_51 : decode cX10_isBelow 51 = .ok (.if_icmp .ne 21, 3) := by decide +kernel
theorem dX10_isBelow_54 : decode cX10_isBelow 54 = .ok (.iload_n 3, 1) := by decide +kernel
theorem dX10_isBelow_55 : decode cX10_isBelow 55 = .ok (.iconst 1, 1) := by decide +kernel
theorem dX10_isBelow_56 : decode cX10_isBelow 56 = .ok (.aload_n 0, 1) := by decide +kernel
theorem dX10_isBelow_57 : decode cX10_isBelow 57 = .ok (.getfield 7, 3) := by decide +kernel
theorem dX10_isBelow_60 : decode cX10_isBelow 60 = .ok (.sipush 426, 3) := by decide +kernel
theorem dX10_isBelow_63 : decode cX10_isBelow 63 = .ok (.iconst 2, 1) := by decide +kernel
theorem dX10_isBelow_64 : decode cX10_isBelow 64 = .ok (.iload 5, 2) := by decide +kernel
theorem dX10_isBelow_66 : decode cX10_isBelow 66 = .ok (.imul, 1) := by decide +kernel
theorem dX10_isBelow_67 : decode cX10_isBelow 67 = .ok (.iadd, 1) := by decide +kernel
theorem dX10_isBelow_68 : decode cX10_isBelow 68 = .ok (.iaload, 1) := by decide +kernel
theorem dX10_isBelow_69 : decode cX10_isBelow 69 = .ok (.ishl, 1) := by decide +kernel
theorem dX10_isBelow_70 : decode cX10_isBelow 70 = .ok (.ior, 1) := by decide +kernel
theorem dX10_isBelow_71 : decode cX10_isBelow 71 = .ok (.istore_n 3, 1) := by decide +kernel
theorem dX10_isBelow_72 : decode cX10_isBelow 72 = .ok (.iinc 5 1, 3) := by decide +kernel
theorem dX10_isBelow_75 : decode cX10_isBelow 75 = .ok (.goto (-56), 3) := by decide +kernel
theorem dX10_isBelow_78 : decode cX10_isBelow 78 = .ok (.goto (-71), 3) := by decide +kernel
theorem dX10_isBelow_81 : decode cX10_isBelow 81 = .ok (.iload_n 3, 1) := by decide +kernel
theorem dX10_isBelow_82 : decode cX10_isBelow 82 = .ok (.iload_n 2, 1) := by decide +kernel
theorem dX10_isBelow_83 : decode cX10_isBelow 83 = .ok (.ishr, 1) := by decide +kernel
theorem dX10_isBelow_84 : decode cX10_isBelow 84 = .ok (.iconst 1, 1) := by decide +kernel
theorem dX10_isBelow_85 : decode cX10_isBelow 85 = .ok (.iand, 1) := by decide +kernel
theorem dX10_isBelow_86 : decode cX10_isBelow 86 = .ok (.iconst 1, 1) := by decide +kernel
theorem dX10_isBelow_87 : decode cX10_isBelow 87 = .ok (.if_icmp .ne 7, 3) := by decide +kernel
theorem dX10_isBelow_90 : decode cX10_isBelow 90 = .ok (.iconst 1, 1) := by decide +kernel
theorem dX10_isBelow_91 : decode cX10_isBelow 91 = .ok (.goto 4, 3) := by decide +kernel
theorem dX10_isBelow_94 : decode cX10_isBelow 94 = .ok (.iconst 0, 1) := by decide +kernel
theorem dX10_isBelow_95 : decode cX10_isBelow 95 = .ok (.ireturn, 1) := by decide +kernel
theorem dX10_yields_0 : decode cX10_yields 0 = .ok (.aload_n 0, 1) := by decide +kernel
theorem dX10_yields_1 : decode cX10_yields 1 = .ok (.iload_n 1, 1) := by decide +kernel
theorem dX10_yields_2 : decode cX10_yields 2 = .ok (.invokevirtual 317, 3) := by decide +kernel
theorem dX10_yields_5 : decode cX10_yields 5 = .ok (.ifCond .eq 41, 3) := by decide +kernel
theorem dX10_yields_8 : decode cX10_yields 8 = .ok (.aload_n 0, 1) := by decide +kernel
theorem dX10_yields_9 : decode cX10_yields 9 = .ok (.iload_n 2, 1) := by decide +kernel
theorem dX10_yields_10 : decode cX10_yields 10 = .ok (.invokevirtual 317, 3) := by decide +kernel
theorem dX10_yields_13 : decode cX10_yields 13 = .ok (.ifCond .eq 33, 3) := by decide +kernel
theorem dX10_yields_16 : decode cX10_yields 16 = .ok (.aload_n 0, 1) := by decide +kernel
theorem dX10_yields_17 : decode cX10_yields 17 = .ok (.getfield 7, 3) := by decide +kernel
theorem dX10_yields_20 : decode cX10_yields 20 = .ok (.bipush 7, 2) := by decide +kernel
theorem dX10_yields_22 : decode cX10_yields 22 = .ok (.iaload, 1) := by decide +kernel
theorem dX10_yields_23 : decode cX10_yields 23 = .ok (.bipush 8, 2) := by decide +kernel
theorem dX10_yields_25 : decode cX10_yields 25 = .ok (.if_icmp .eq 21, 3) := by decide +kernel
theorem dX10_yields_28 : decode cX10_yields 28 = .ok (.aload_n 0, 1) := by decide +kernel
theorem dX10_yields_29 : decode cX10_yields 29 = .ok (.iload_n 2, 1) := by decide +kernel
theorem dX10_yields_30 : decode cX10_yields 30 = .ok (.iload_n 1, 1) := by decide +kernel
theorem dX10_yields_31 : decode cX10_yields 31 = .ok (.invokevirtual 181, 3) := by decide +kernel
theorem dX10_yields_34 : decode cX10_yields 34 = .ok (.ifCond .ne 12, 3) := by decide +kernel
theorem dX10_yields_37 : decode cX10_yields 37 = .ok (.aload_n 0, 1) := by decide +kernel
theorem dX10_yields_38 : decode cX10_yields 38 = .ok (.iload_n 1, 1) := by decide +kernel
theorem dX10_yields_39 : decode cX10_yields 39 = .ok (.iload_n 2, 1) := by decide +kernel
theorem dX10_yields_40 : decode cX10_yields 40 = .ok (.invokevirtual 326, 3) := by decide +kernel
theorem dX10_yields_43 : decode cX10_yields 43 = .ok (.ifCond .eq 5, 3) := by decide +kernel
theorem dX10_yields_46 : decode cX10_yields 46 = .ok (.iconst 0, 1) := by decide +kernel
theorem dX10_yields_47 : decode cX10_yields 47 = .ok (.ireturn, 1) := by decide +kernel
theorem dX10_yields_48 : decode cX10_yields 48 = .ok (.aload_n 0, 1) := by decide +kernel
theorem dX10_yields_49 : decode cX10_yields 49 = .ok (.invokevirtual 250, 3) := by decide +kernel
theorem dX10_yields_52 : decode cX10_yields 52 = .ok (.aload_n 0, 1) := by decide +kernel
theorem dX10_yields_53 : decode cX10_yields 53 = .ok (.getfield 7, 3) := by decide +kernel
theorem dX10_yields_56 : decode cX10_yields 56 = .ok (.sipush 426, 3) := by decide +kernel
theorem dX10_yields_59 : decode cX10_yields 59 = .ok (.iconst 2, 1) := by decide +kernel
theorem dX10_yields_60 : decode cX10_yields 60 = .ok (.aload_n 0, 1) := by decide +kernel
theorem dX10_yields_61 : decode cX10_yields 61 = .ok (.getfield 7, 3) := by decide +kernel
theorem dX10_yields_64 : decode cX10_yields 64 = .ok (.bipush 7, 2) := by decide +kernel
theorem dX10_yields_66 : decode cX10_yields 66 = .ok (.iaload, 1) := by decide +kernel
theorem dX10_yields_67 : decode cX10_yields 67 = .ok (.imul, 1) := by decide +kernel
theorem dX10_yields_68 : decode cX10_yields 68 = .ok (.iadd, 1) := by decide +kernel
theorem dX10_yields_69 : decode cX10_yields 69 = .ok (.iload_n 1, 1) := by decide +kernel
theorem dX10_yields_70 : decode cX10_yields 70 = .ok (.iastore, 1) := by decide +kernel
theorem dX10_yields_71 : decode cX10_yields 71 = .ok (.aload_n 0, 1) := by decide +kernel
theorem dX10_yields_72 : decode cX10_yields 72 = .ok (.getfield 7, 3) := by decide +kernel
theorem dX10_yields_75 : decode cX10_yields 75 = .ok (.sipush 426, 3) := by decide +kernel
theorem dX10_yields_78 : decode cX10_yields 78 = .ok (.iconst 2, 1) := by decide +kernel
theorem dX10_yields_79 : decode cX10_yields 79 = .ok (.aload_n 0, 1) := by decide +kernel
theorem dX10_yields_80 : decode cX10_yields 80 = .ok (.getfield 7, 3) := by decide +kernel
theorem dX10_yields_83 : decode cX10_yields 83 = .ok (.bipush 7, 2) := by decide +kernel
theorem dX10_yields_85 : decode cX10_yields 85 = .ok (.iaload, 1) := by decide +kernel
theorem dX10_yields_86 : decode cX10_yields 86 = .ok (.imul, 1) := by decide +kernel
theorem dX10_yields_87 : decode cX10_yields 87 = .ok (.iadd, 1) := by decide +kernel
theorem dX10_yields_88 : decode cX10_yields 88 = .ok (.iconst 1, 1) := by decide +kernel
theorem dX10_yields_89 : decode cX10_yields 89 = .ok (.iadd, 1) := by decide +kernel
theorem dX10_yields_90 : decode cX10_yields 90 = .ok (.iload_n 2, 1) := by decide +kernel
theorem dX10_yields_91 : decode cX10_yields 91 = .ok (.iastore, 1) := by decide +kernel
theorem dX10_yields_92 : decode cX10_yields 92 = .ok (.aload_n 0, 1) := by decide +kernel
theorem dX10_yields_93 : decode cX10_yields 93 = .ok (.getfield 7, 3) := by decide +kernel
theorem dX10_yields_96 : decode cX10_yields 96 = .ok (.bipush 7, 2) := by decide +kernel
theorem dX10_yields_98 : decode cX10_yields 98 = .ok (.dup2, 1) := by decide +kernel
theorem dX10_yields_99 : decode cX10_yields 99 = .ok (.iaload, 1) := by decide +kernel
theorem dX10_yields_100 : decode cX10_yields 100 = .ok (.iconst 1, 1) := by decide +kernel
theorem dX10_yields_101 : decode cX10_yields 101 = .ok (.iadd, 1) := by decide +kernel
theorem dX10_yields_102 : decode cX10_yields 102 = .ok (.iastore, 1) := by decide +kernel
theorem dX10_yields_103 : decode cX10_yields 103 = .ok (.iconst 1, 1) := by decide +kernel
theorem dX10_yields_104 : decode cX10_yields 104 = .ok (.ireturn, 1) := by decide +kernel
theorem dX10_insist_0 : decode cX10_insist 0 = .ok (.aload_n 0, 1) := by decide +kernel
theorem dX10_insist_1 : decode cX10_insist 1 = .ok (.invokevirtual 250, 3) := by decide +kernel
theorem dX10_insist_4 : decode cX10_insist 4 = .ok (.aload_n 0, 1) := by decide +kernel
theorem dX10_insist_5 : decode cX10_insist 5 = .ok (.getfield 7, 3) := by decide +kernel
theorem dX10_insist_8 : decode cX10_insist 8 = .ok (.bipush 7, 2) := by decide +kernel
theorem dX10_insist_10 : decode cX10_insist 10 = .ok (.iaload, 1) := by decide +kernel
theorem dX10_insist_11 : decode cX10_insist 11 = .ok (.istore_n 1, 1) := by decide +kernel
theorem dX10_insist_12 : decode cX10_insist 12 = .ok (.iconst 0, 1) := by decide +kernel
theorem dX10_insist_13 : decode cX10_insist 13 = .ok (.istore_n 2, 1) := by decide +kernel
theorem dX10_insist_14 : decode cX10_insist 14 = .ok (.iload_n 2, 1) := by decide +kernel
theorem dX10_insist_15 : decode cX10_insist 15 = .ok (.bipush 16, 2) := by decide +kernel
theorem dX10_insist_17 : decode cX10_insist 17 = .ok (.if_icmp .ge 20, 3) := by decide +kernel
theorem dX10_insist_20 : decode cX10_insist 20 = .ok (.aload_n 0, 1) := by decide +kernel
theorem dX10_insist_21 : decode cX10_insist 21 = .ok (.getfield 7, 3) := by decide +kernel
theorem dX10_insist_24 : decode cX10_insist 24 = .ok (.sipush 426, 3) := by decide +kernel
theorem dX10_insist_27 : decode cX10_insist 27 = .ok (.iload_n 2, 1) := by decide +kernel
theorem dX10_insist_28 : decode cX10_insist 28 = .ok (.iadd, 1) := by decide +kernel
theorem dX10_insist_29 : decode cX10_insist 29 = .ok (.iconst 0, 1) := by decide +kernel
theorem dX10_insist_30 : decode cX10_insist 30 = .ok (.iastore, 1) := by decide +kernel
theorem dX10_insist_31 : decode cX10_insist 31 = .ok (.iinc 2 1, 3) := by decide +kernel
theorem dX10_insist_34 : decode cX10_insist 34 = .ok (.goto (-20), 3) := by decide +kernel
theorem dX10_insist_37 : decode cX10_insist 37 = .ok (.aload_n 0, 1) := by decide +kernel
theorem dX10_insist_38 : decode cX10_insist 38 = .ok (.getfield 7, 3) := by decide +kernel
theorem dX10_insist_41 : decode cX10_insist 41 = .ok (.bipush 7, 2) := by decide +kernel
theorem dX10_insist_43 : decode cX10_insist 43 = .ok (.iconst 0, 1) := by decide +kernel
theorem dX10_insist_44 : decode cX10_insist 44 = .ok (.iastore, 1) := by decide +kernel
theorem dX10_insist_45 : decode cX10_insist 45 = .ok (.iload_n 1, 1) := by decide +kernel
theorem dX10_insist_46 : decode cX10_insist 46 = .ok (.ireturn, 1) := by decide +kernel
theorem dX10_isFinding_0 : decode cX10_isFinding 0 = .ok (.aload_n 0, 1) := by decide +kernel
theorem dX10_isFinding_1 : decode cX10_isFinding 1 = .ok (.invokevirtual 229, 3) := by decide +kernel
theorem dX10_isFinding_4 : decode cX10_isFinding 4 = .ok (.iload_n 1, 1) := by decide +kernel
theorem dX10_isFinding_5 : decode cX10_isFinding 5 = .ok (.iconst 0, 1) := by decide +kernel
theorem dX10_isFinding_6 : decode cX10_isFinding 6 = .ok (.aload_n 0, 1) := by decide +kernel
theorem dX10_isFinding_7 : decode cX10_isFinding 7 = .ok (.getfield 175, 3) := by decide +kernel
theorem dX10_isFinding_10 : decode cX10_isFinding 10 = .ok (.iconst 1, 1) := by decide +kernel
theorem dX10_isFinding_11 : decode cX10_isFinding 11 = .ok (.isub, 1) := by decide +kernel
theorem dX10_isFinding_12 : decode cX10_isFinding 12 = .ok (.invokestatic 103, 3) := by decide +kernel
theorem dX10_isFinding_15 : decode cX10_isFinding 15 = .ok (.ireturn, 1) := by decide +kernel
theorem dX10_apply_0 : decode cX10_apply 0 = .ok (.aload_n 0, 1) := by decide +kernel
theorem dX10_apply_1 : decode cX10_apply 1 = .ok (.iload_n 1, 1) := by decide +kernel
theorem dX10_apply_2 : decode cX10_apply 2 = .ok (.invokevirtual 329, 3) := by decide +kernel
theorem dX10_apply_5 : decode cX10_apply 5 = .ok (.ifCond .eq 23, 3) := by decide +kernel
theorem dX10_apply_8 : decode cX10_apply 8 = .ok (.aload_n 0, 1) := by decide +kernel
theorem dX10_apply_9 : decode cX10_apply 9 = .ok (.getfield 46, 3) := by decide +kernel
theorem dX10_apply_12 : decode cX10_apply 12 = .ok (.iload_n 1, 1) := by decide +kernel
theorem dX10_apply_13 : decode cX10_apply 13 = .ok (.baload, 1) := by decide +kernel
theorem dX10_apply_14 : decode cX10_apply 14 = .ok (.ifCond .ne 14, 3) := by decide +kernel
theorem dX10_apply_17 : decode cX10_apply 17 = .ok (.aload_n 0, 1) := by decide +kernel
theorem dX10_apply_18 : decode cX10_apply 18 = .ok (.iload_n 1, 1) := by decide +kernel
theorem dX10_apply_19 : decode cX10_apply 19 = .ok (.invokevirtual 226, 3) := by decide +kernel
theorem dX10_apply_22 : decode cX10_apply 22 = .ok (.sipush 200, 3) := by decide +kernel
theorem dX10_apply_25 : decode cX10_apply 25 = .ok (.if_icmp .le 5, 3) := by decide +kernel
theorem dX10_apply_28 : decode cX10_apply 28 = .ok (.iconst (-1), 1) := by decide +kernel
theorem dX10_apply_29 : decode cX10_apply 29 = .ok (.ireturn, 1) := by decide +kernel
theorem dX10_apply_30 : decode cX10_apply 30 = .ok (.aload_n 0, 1) := by decide +kernel
theorem dX10_apply_31 : decode cX10_apply 31 = .ok (.invokevirtual 250, 3) := by decide +kernel
theorem dX10_apply_34 : decode cX10_apply 34 = .ok (.aload_n 0, 1) := by decide +kernel
theorem dX10_apply_35 : decode cX10_apply 35 = .ok (.iload_n 1, 1) := by decide +kernel
theorem dX10_apply_36 : decode cX10_apply 36 = .ok (.invokevirtual 235, 3) := by decide +kernel
theorem dX10_apply_39 : decode cX10_apply 39 = .ok (.aload_n 0, 1) := by decide +kernel
theorem dX10_apply_40 : decode cX10_apply 40 = .ok (.getfield 7, 3) := by decide +kernel
theorem dX10_apply_43 : decode cX10_apply 43 = .ok (.iconst 2, 1) := by decide +kernel
theorem dX10_apply_44 : decode cX10_apply 44 = .ok (.iaload, 1) := by decide +kernel
theorem dX10_apply_45 : decode cX10_apply 45 = .ok (.ireturn, 1) := by decide +kernel
theorem dX10_make_0 : decode cX10_make 0 = .ok (.iload_n 1, 1) := by decide +kernel
theorem dX10_make_1 : decode cX10_make 1 = .ok (.iconst 1, 1) := by decide +kernel
theorem dX10_make_2 : decode cX10_make 2 = .ok (.bipush 30, 2) := by decide +kernel
theorem dX10_make_4 : decode cX10_make 4 = .ok (.invokestatic 103, 3) := by decide +kernel
theorem dX10_make_7 : decode cX10_make 7 = .ok (.ifCond .ne 5, 3) := by decide +kernel
theorem dX10_make_10 : decode cX10_make 10 = .ok (.iconst (-1), 1) := by decide +kernel
theorem dX10_make_11 : decode cX10_make 11 = .ok (.ireturn, 1) := by decide +kernel
theorem dX10_make_12 : decode cX10_make 12 = .ok (.aload_n 0, 1) := by decide +kernel
theorem dX10_make_13 : decode cX10_make 13 = .ok (.invokevirtual 250, 3) := by decide +kernel
theorem dX10_make_16 : decode cX10_make 16 = .ok (.iconst 0, 1) := by decide +kernel
theorem dX10_make_17 : decode cX10_make 17 = .ok (.istore_n 2, 1) := by decide +kernel
theorem dX10_make_18 : decode cX10_make 18 = .ok (.iload_n 2, 1) := by decide +kernel
theorem dX10_make_19 : decode cX10_make 19 = .ok (.iload_n 1, 1) := by decide +kernel
theorem dX10_make_20 : decode cX10_make 20 = .ok (.if_icmp .ge 16, 3) := by decide +kernel
theorem dX10_make_23 : decode cX10_make 23 = .ok (.aload_n 0, 1) := by decide +kernel
theorem dX10_make_24 : decode cX10_make 24 = .ok (.invokevirtual 332, 3) := by decide +kernel
theorem dX10_make_27 : decode cX10_make 27 = .ok (.ifCond .eq 9, 3) := by decide +kernel
theorem dX10_make_30 : decode cX10_make 30 = .ok (.iinc 2 1, 3) := by decide +kernel
theorem dX10_make_33 : decode cX10_make 33 = .ok (.goto (-15), 3) := by decide +kernel
theorem dX10_make_36 : decode cX10_make 36 = .ok (.iload_n 2, 1) := by decide +kernel
theorem dX10_make_37 : decode cX10_make 37 = .ok (.ireturn, 1) := by decide +kernel
theorem dX10_countOf_0 : decode cX10_countOf 0 = .ok (.iconst 0, 1) := by decide +kernel
theorem dX10_countOf_1 : decode cX10_countOf 1 = .ok (.istore_n 2, 1) := by decide +kernel
theorem dX10_countOf_2 : decode cX10_countOf 2 = .ok (.iconst 0, 1) := by decide +kernel
theorem dX10_countOf_3 : decode cX10_countOf 3 = .ok (.istore_n 3, 1) := by decide +kernel
theorem dX10_countOf_4 : decode cX10_countOf 4 = .ok (.iload_n 3, 1) := by decide +kernel
theorem dX10_countOf_5 : decode cX10_countOf 5 = .ok (.aload_n 0, 1) := by decide +kernel
theorem dX10_countOf_6 : decode cX10_countOf 6 = .ok (.getfield 175, 3) := by decide +kernel
theorem dX10_countOf_9 : decode cX10_countOf 9 = .ok (.if_icmp .ge 47, 3) := by decide +kernel
theorem dX10_countOf_12 : decode cX10_countOf 12 = .ok (.iload_n 2, 1) := by decide +kernel
theorem dX10_countOf_13 : decode cX10_countOf 13 = .ok (.iload_n 1, 1) := by decide +kernel
theorem dX10_countOf_14 : decode cX10_countOf 14 = .ok (.ifCond .eq 20, 3) := by decide +kernel
theorem dX10_countOf_17 : decode cX10_countOf 17 = .ok (.aload_n 0, 1) := by decide +kernel
theorem dX10_countOf_18 : decode cX10_countOf 18 = .ok (.getfield 46, 3) := by decide +kernel
theorem dX10_countOf_21 : decode cX10_countOf 21 = .ok (.iload_n 3, 1) := by decide +kernel
theorem dX10_countOf_22 : decode cX10_countOf 22 = .ok (.baload, 1) := by decide +kernel
theorem dX10_countOf_23 : decode cX10_countOf 23 = .ok (.ifCond .eq 7, 3) := by decide +kernel
theorem dX10_countOf_26 : decode cX10_countOf 26 = .ok (.iconst 1, 1) := by decide +kernel
theorem dX10_countOf_27 : decode cX10_countOf 27 = .ok (.goto 21, 3) := by decide +kernel
theorem dX10_countOf_30 : decode cX10_countOf 30 = .ok (.iconst 0, 1) := by decide +kernel
theorem dX10_countOf_31 : decode cX10_countOf 31 = .ok (.goto 17, 3) := by decide +kernel
theorem dX10_countOf_34 : decode cX10_countOf 34 = .ok (.aload_n 0, 1) := by decide +kernel
theorem dX10_countOf_35 : decode cX10_countOf 35 = .ok (.getfield 50, 3) := by decide +kernel
theorem dX10_countOf_38 : decode cX10_countOf 38 = .ok (.iload_n 3, 1) := by decide +kernel
theorem dX10_countOf_39 : decode cX10_countOf 39 = .ok (.baload, 1) := by decide +kernel
theorem dX10_countOf_40 : decode cX10_countOf 40 = .ok (.ifCond .eq 7, 3) := by decide +kernel
theorem dX10_countOf_43 : decode cX10_countOf 43 = .ok (.iconst 1, 1) := by decide +kernel
theorem dX10_countOf_44 : decode cX10_countOf 44 = .ok (.goto 4, 3) := by decide +kernel
theorem dX10_countOf_47 : decode cX10_countOf 47 = .ok (.iconst 0, 1) := by decide +kernel
theorem dX10_countOf_48 : decode cX10_countOf 48 = .ok (.iadd, 1) := by decide +kernel
theorem dX10_countOf_49 : decode cX10_countOf 49 = .ok (.istore_n 2, 1) := by decide +kernel
theorem dX10_countOf_50 : decode cX10_countOf 50 = .ok (.iinc 3 1, 3) := by decide +kernel
theorem dX10_countOf_53 : decode cX10_countOf 53 = .ok (.goto (-49), 3) := by decide +kernel
theorem dX10_countOf_56 : decode cX10_countOf 56 = .ok (.iload_n 2, 1) := by decide +kernel
theorem dX10_countOf_57 : decode cX10_countOf 57 = .ok (.ireturn, 1) := by decide +kernel
theorem dX10_onBits_0 : decode cX10_onBits 0 = .ok (.iconst 0, 1) := by decide +kernel
theorem dX10_onBits_1 : decode cX10_onBits 1 = .ok (.istore_n 1, 1) := by decide +kernel
theorem dX10_onBits_2 : decode cX10_onBits 2 = .ok (.iconst 0, 1) := by decide +kernel
theorem dX10_onBits_3 : decode cX10_onBits 3 = .ok (.istore_n 2, 1) := by decide +kernel
theorem dX10_onBits_4 : decode cX10_onBits 4 = .ok (.iload_n 2, 1) := by decide +kernel
theorem dX10_onBits_5 : decode cX10_onBits 5 = .ok (.aload_n 0, 1) := by decide +kernel
theorem dX10_onBits_6 : decode cX10_onBits 6 = .ok (.getfield 7, 3) := by decide +kernel
theorem dX10_onBits_9 : decode cX10_onBits 9 = .ok (.iconst 4, 1) := by decide +kernel
theorem dX10_onBits_10 : decode cX10_onBits 10 = .ok (.iaload, 1) := by decide +kernel
theorem dX10_onBits_11 : decode cX10_onBits 11 = .ok (.if_icmp .ge 20, 3) := by decide +kernel
theorem dX10_onBits_14 : decode cX10_onBits 14 = .ok (.iload_n 1, 1) := by decide +kernel
theorem dX10_onBits_15 : decode cX10_onBits 15 = .ok (.aload_n 0, 1) := by decide +kernel
theorem dX10_onBits_16 : decode cX10_onBits 16 = .ok (.iload_n 2, 1) := by decide +kernel
theorem dX10_onBits_17 : decode cX10_onBits 17 = .ok (.iconst 1, 1) := by decide +kernel
theorem dX10_onBits_18 : decode cX10_onBits 18 = .ok (.invokevirtual 127, 3) := by decide +kernel
theorem dX10_onBits_21 : decode cX10_onBits 21 = .ok (.iload_n 2, 1) := by decide +kernel
theorem dX10_onBits_22 : decode cX10_onBits 22 = .ok (.ishl, 1) := by decide +kernel
theorem dX10_onBits_23 : decode cX10_onBits 23 = .ok (.ior, 1) := by decide +kernel
theorem dX10_onBits_24 : decode cX10_onBits 24 = .ok (.istore_n 1, 1) := by decide +kernel
theorem dX10_onBits_25 : decode cX10_onBits 25 = .ok (.iinc 2 1, 3) := by decide +kernel
theorem dX10_onBits_28 : decode cX10_onBits 28 = .ok (.goto (-24), 3) := by decide +kernel
theorem dX10_onBits_31 : decode cX10_onBits 31 = .ok (.iload_n 1, 1) := by decide +kernel
theorem dX10_onBits_32 : decode cX10_onBits 32 = .ok (.ireturn, 1) := by decide +kernel
theorem dX10_is_0 : decode cX10_is 0 = .ok (.aload_n 0, 1) := by decide +kernel
theorem dX10_is_1 : decode cX10_is 1 = .ok (.invokevirtual 229, 3) := by decide +kernel
theorem dX10_is_4 : decode cX10_is 4 = .ok (.iload_n 1, 1) := by decide +kernel
theorem dX10_is_5 : decode cX10_is 5 = .ok (.tableswitch 186 0 15 #[79, 86, 91, 98, 103, 108, 114, 121, 128, 136, 144, 149, 155, 163, 168, 181], 79) := by decide +kernel
theorem dX10_is_84 : decode cX10_is 84 = .ok (.aload_n 0, 1) := by decide +kernel
theorem dX10_is_85 : decode cX10_is 85 = .ok (.getfield 7, 3) := by decide +kernel
theorem dX10_is_88 : decode cX10_is 88 = .ok (.iconst 2, 1) := by decide +kernel
theorem dX10_is_89 : decode cX10_is 89 = .ok (.iaload, 1) := by decide +kernel
theorem dX10_is_90 : decode cX10_is 90 = .ok (.ireturn, 1) := by decide +kernel
theorem dX10_is_91 : decode cX10_is 91 = .ok (.aload_n 0, 1) := by decide +kernel
theorem dX10_is_92 : decode cX10_is 92 = .ok (.getfield 117, 3) := by decide +kernel
theorem dX10_is_95 : decode cX10_is 95 = .ok (.ireturn, 1) := by decide +kernel
theorem dX10_is_96 : decode cX10_is 96 = .ok (.aload_n 0, 1) := by decide +kernel
theorem dX10_is_97 : decode cX10_is 97 = .ok (.getfield 7, 3) := by decide +kernel
theorem dX10_is_100 : decode cX10_is 100 = .ok (.iconst 4, 1) := by decide +kernel
theorem dX10_is_101 : decode cX10_is 101 = .ok (.iaload, 1) := by decide +kernel
theorem dX10_is_102 : decode cX10_is 102 = .ok (.ireturn, 1) := by decide +kernel
theorem dX10_is_103 : decode cX10_is 103 = .ok (.aload_n 0, 1) := by decide +kernel
theorem dX10_is_104 : decode cX10_is 104 = .ok (.invokevirtual 335, 3) := by decide +kernel
theorem dX10_is_107 : decode cX10_is 107 = .ok (.ireturn, 1) := by decide +kernel
theorem dX10_is_108 : decode cX10_is 108 = .ok (.aload_n 0, 1) := by decide +kernel
theorem dX10_is_109 : decode cX10_is 109 = .ok (.getfield 175, 3) := by decide +kernel
theorem dX10_is_112 : decode cX10_is 112 = .ok (.ireturn, 1) := by decide +kernel
theorem dX10_is_113 : decode cX10_is 113 = .ok (.aload_n 0, 1) := by decide +kernel
theorem dX10_is_114 : decode cX10_is 114 = .ok (.iconst 1, 1) := by decide +kernel
theorem dX10_is_115 : decode cX10_is 115 = .ok (.invokevirtual 338, 3) := by decide +kernel
theorem dX10_is_118 : decode cX10_is 118 = .ok (.ireturn, 1) := by decide +kernel
theorem dX10_is_119 : decode cX10_is 119 = .ok (.aload_n 0, 1) := by decide +kernel
theorem dX10_is_120 : decode cX10_is 120 = .ok (.getfield 7, 3) := by decide +kernel
theorem dX10_is_123 : decode cX10_is 123 = .ok (.iconst 3, 1) := by decide +kernel
theorem dX10_is_124 : decode cX10_is 124 = .ok (.iaload, 1) := by decide +kernel
theorem dX10_is_125 : decode cX10_is 125 = .ok (.ireturn, 1) := by decide +kernel
theorem dX10_is_126 : decode cX10_is 126 = .ok (.aload_n 0, 1) := by decide +kernel
theorem dX10_is_127 : decode cX10_is 127 = .ok (.getfield 7, 3) := by decide +kernel
theorem dX10_is_130 : decode cX10_is 130 = .ok (.iconst 5, 1) := by decide +kernel
theorem dX10_is_131 : decode cX10_is 131 = .ok (.iaload, 1) := by decide +kernel
theorem dX10_is_132 : decode cX10_is 132 = .ok (.ireturn, 1) := by decide +kernel
theorem dX10_is_133 : decode cX10_is 133 = .ok (.aload_n 0, 1) := by decide +kernel
theorem dX10_is_134 : decode cX10_is 134 = .ok (.getfield 7, 3) := by decide +kernel
theorem dX10_is_137 : decode cX10_is 137 = .ok (.bipush 6, 2) := by decide +kernel
theorem dX10_is_139 : decode cX10_is 139 = .ok (.iaload, 1) := by decide +kernel
theorem dX10_is_140 : decode cX10_is 140 = .ok (.ireturn, 1) := by decide +kernel
theorem dX10_is_141 : decode cX10_is 141 = .ok (.aload_n 0, 1) := by decide +kernel
theorem dX10_is_142 : decode cX10_is 142 = .ok (.getfield 7, 3) := by decide +kernel
theorem dX10_is_145 : decode cX10_is 145 = .ok (.bipush 8, 2) := by decide +kernel
theorem dX10_is_147 : decode cX10_is 147 = .ok (.iaload, 1) := by decide +kernel
theorem dX10_is_148 : decode cX10_is 148 = .ok (.ireturn, 1) := by decide +kernel
theorem dX10_is_149 : decode cX10_is 149 = .ok (.aload_n 0, 1) := by decide +kernel
theorem dX10_is_150 : decode cX10_is 150 = .ok (.getfield 241, 3) := by decide +kernel
theorem dX10_is_153 : decode cX10_is 153 = .ok (.ireturn, 1) := by decide +kernel
theorem dX10_is_154 : decode cX10_is 154 = .ok (.aload_n 0, 1) := by decide +kernel
theorem dX10_is_155 : decode cX10_is 155 = .ok (.iconst 0, 1) := by decide +kernel
theorem dX10_is_156 : decode cX10_is 156 = .ok (.invokevirtual 338, 3) := by decide +kernel
theorem dX10_is_159 : decode cX10_is 159 = .ok (.ireturn, 1) := by decide +kernel
theorem dX10_is_160 : decode cX10_is 160 = .ok (.aload_n 0, 1) := by decide +kernel
theorem dX10_is_161 : decode cX10_is 161 = .ok (.getfield 7, 3) := by decide +kernel
theorem dX10_is_164 : decode cX10_is 164 = .ok (.bipush 7, 2) := by decide +kernel
theorem dX10_is_166 : decode cX10_is 166 = .ok (.iaload, 1) := by decide +kernel
theorem dX10_is_167 : decode cX10_is 167 = .ok (.ireturn, 1) := by decide +kernel
theorem dX10_is_168 : decode cX10_is 168 = .ok (.aload_n 0, 1) := by decide +kernel
theorem dX10_is_169 : decode cX10_is 169 = .ok (.invokevirtual 342, 3) := by decide +kernel
theorem dX10_is_172 : decode cX10_is 172 = .ok (.ireturn, 1) := by decide +kernel
theorem dX10_is_173 : decode cX10_is 173 = .ok (.aload_n 0, 1) := by decide +kernel
theorem dX10_is_174 : decode cX10_is 174 = .ok (.aload_n 0, 1) := by decide +kernel
theorem dX10_is_175 : decode cX10_is 175 = .ok (.getfield 7, 3) := by decide +kernel
theorem dX10_is_178 : decode cX10_is 178 = .ok (.iconst 2, 1) := by decide +kernel
theorem dX10_is_179 : decode cX10_is 179 = .ok (.iaload, 1) := by decide +kernel
theorem dX10_is_180 : decode cX10_is 180 = .ok (.invokevirtual 345, 3) := by decide +kernel
theorem dX10_is_183 : decode cX10_is 183 = .ok (.iconst 1, 1) := by decide +kernel
theorem dX10_is_184 : decode cX10_is 184 = .ok (.iadd, 1) := by decide +kernel
theorem dX10_is_185 : decode cX10_is 185 = .ok (.ireturn, 1) := by decide +kernel
theorem dX10_is_186 : decode cX10_is 186 = .ok (.aload_n 0, 1) := by decide +kernel
theorem dX10_is_187 : decode cX10_is 187 = .ok (.invokevirtual 348, 3) := by decide +kernel
theorem dX10_is_190 : decode cX10_is 190 = .ok (.ireturn, 1) := by decide +kernel
theorem dX10_is_191 : decode cX10_is 191 = .ok (.iconst (-1), 1) := by decide +kernel
theorem dX10_is_192 : decode cX10_is 192 = .ok (.ireturn, 1) := by decide +kernel
theorem dX10_at_0 : decode cX10_at 0 = .ok (.aload_n 0, 1) := by decide +kernel
theorem dX10_at_1 : decode cX10_at 1 = .ok (.iload_n 1, 1) := by decide +kernel
theorem dX10_at_2 : decode cX10_at 2 = .ok (.invokevirtual 323, 3) := by decide +kernel
theorem dX10_at_5 : decode cX10_at 5 = .ok (.ifCond .eq 11, 3) := by decide +kernel
theorem dX10_at_8 : decode cX10_at 8 = .ok (.aload_n 0, 1) := by decide +kernel
theorem dX10_at_9 : decode cX10_at 9 = .ok (.iload_n 1, 1) := by decide +kernel
theorem dX10_at_10 : decode cX10_at 10 = .ok (.invokevirtual 120, 3) := by decide +kernel
theorem dX10_at_13 : decode cX10_at 13 = .ok (.goto 4, 3) := by decide +kernel
theorem dX10_at_16 : decode cX10_at 16 = .ok (.iconst (-1), 1) := by decide +kernel
theorem dX10_at_17 : decode cX10_at 17 = .ok (.ireturn, 1) := by decide +kernel
theorem dX10_token_0 : decode cX10_token 0 = .ok (.aload_n 0, 1) := by decide +kernel
theorem dX10_token_1 : decode cX10_token 1 = .ok (.invokevirtual 184, 3) := by decide +kernel
theorem dX10_token_4 : decode cX10_token 4 = .ok (.iload_n 1, 1) := by decide +kernel
theorem dX10_token_5 : decode cX10_token 5 = .ok (.iconst 0, 1) := by decide +kernel
theorem dX10_token_6 : decode cX10_token 6 = .ok (.aload_n 0, 1) := by decide +kernel
theorem dX10_token_7 : decode cX10_token 7 = .ok (.getfield 117, 3) := by decide +kernel
theorem dX10_token_10 : decode cX10_token 10 = .ok (.iconst 1, 1) := by decide +kernel
theorem dX10_token_11 : decode cX10_token 11 = .ok (.isub, 1) := by decide +kernel
theorem dX10_token_12 : decode cX10_token 12 = .ok (.invokestatic 103, 3) := by decide +kernel
theorem dX10_token_15 : decode cX10_token 15 = .ok (.ifCond .ne 5, 3) := by decide +kernel
theorem dX10_token_18 : decode cX10_token 18 = .ok (.iconst (-1), 1) := by decide +kernel
theorem dX10_token_19 : decode cX10_token 19 = .ok (.ireturn, 1) := by decide +kernel
theorem dX10_token_20 : decode cX10_token 20 = .ok (.iload_n 2, 1) := by decide +kernel
theorem dX10_token_21 : decode cX10_token 21 = .ok (.tableswitch 58 0 2 #[27, 44, 51], 27) := by decide +kernel
theorem dX10_token_48 : decode cX10_token 48 = .ok (.aload_n 0, 1) := by decide +kernel
theorem dX10_token_49 : decode cX10_token 49 = .ok (.aload_n 0, 1) := by decide +kernel
theorem dX10_token_50 : decode cX10_token 50 = .ok (.getfield 16, 3) := by decide +kernel
theorem dX10_token_53 : decode cX10_token 53 = .ok (.iload_n 1, 1) := by decide +kernel
theorem dX10_token_54 : decode cX10_token 54 = .ok (.iaload, 1) := by decide +kernel
theorem dX10_token_55 : decode cX10_token 55 = .ok (.invokevirtual 120, 3) := by decide +kernel
theorem dX10_token_58 : decode cX10_token 58 = .ok (.invokestatic 124, 3) := by decide +kernel
theorem dX10_token_61 : decode cX10_token 61 = .ok (.invokestatic 351, 3) := by decide +kernel
theorem dX10_token_64 : decode cX10_token 64 = .ok (.ireturn, 1) := by decide +kernel
theorem dX10_token_65 : decode cX10_token 65 = .ok (.aload_n 0, 1) := by decide +kernel
theorem dX10_token_66 : decode cX10_token 66 = .ok (.getfield 16, 3) := by decide +kernel
theorem dX10_token_69 : decode cX10_token 69 = .ok (.iload_n 1, 1) := by decide +kernel
theorem dX10_token_70 : decode cX10_token 70 = .ok (.iaload, 1) := by decide +kernel
theorem dX10_token_71 : decode cX10_token 71 = .ok (.ireturn, 1) := by decide +kernel
theorem dX10_token_72 : decode cX10_token 72 = .ok (.aload_n 0, 1) := by decide +kernel
theorem dX10_token_73 : decode cX10_token 73 = .ok (.getfield 19, 3) := by decide +kernel
theorem dX10_token_76 : decode cX10_token 76 = .ok (.iload_n 1, 1) := by decide +kernel
theorem dX10_token_77 : decode cX10_token 77 = .ok (.iaload, 1) := by decide +kernel
theorem dX10_token_78 : decode cX10_token 78 = .ok (.ireturn, 1) := by decide +kernel
theorem dX10_token_79 : decode cX10_token 79 = .ok (.iconst (-1), 1) := by decide +kernel
theorem dX10_token_80 : decode cX10_token 80 = .ok (.ireturn, 1) := by decide +kernel
theorem dX10_toldSort_0 : decode cX10_toldSort 0 = .ok (.iload_n 0, 1) := by decide +kernel
theorem dX10_toldSort_1 : decode cX10_toldSort 1 = .ok (.iconst 3, 1) := by decide +kernel
theorem dX10_toldSort_2 : decode cX10_toldSort 2 = .ok (.if_icmp .ne 7, 3) := by decide +kernel
theorem dX10_toldSort_5 : decode cX10_toldSort 5 = .ok (.iconst 2, 1) := by decide +kernel
theorem dX10_toldSort_6 : decode cX10_toldSort 6 = .ok (.goto 13, 3) := by decide +kernel
theorem dX10_toldSort_9 : decode cX10_toldSort 9 = .ok (.iload_n 0, 1) := by decide +kernel
theorem dX10_toldSort_10 : decode cX10_toldSort 10 = .ok (.iconst 2, 1) := by decide +kernel
theorem dX10_toldSort_11 : decode cX10_toldSort 11 = .ok (.if_icmp .ne 7, 3) := by decide +kernel
theorem dX10_toldSort_14 : decode cX10_toldSort 14 = .ok (.iconst 3, 1) := by decide +kernel
theorem dX10_toldSort_15 : decode cX10_toldSort 15 = .ok (.goto 4, 3) := by decide +kernel
theorem dX10_toldSort_18 : decode cX10_toldSort 18 = .ok (.iload_n 0, 1) := by decide +kernel
theorem dX10_toldSort_19 : decode cX10_toldSort 19 = .ok (.ireturn, 1) := by decide +kernel
theorem dX10_tokenAt_0 : decode cX10_tokenAt 0 = .ok (.aload_n 0, 1) := by decide +kernel
theorem dX10_tokenAt_1 : decode cX10_tokenAt 1 = .ok (.iload_n 1, 1) := by decide +kernel
theorem dX10_tokenAt_2 : decode cX10_tokenAt 2 = .ok (.invokevirtual 323, 3) := by decide +kernel
theorem dX10_tokenAt_5 : decode cX10_tokenAt 5 = .ok (.ifCond .ne 5, 3) := by decide +kernel
theorem dX10_tokenAt_8 : decode cX10_tokenAt 8 = .ok (.iconst (-1), 1) := by decide +kernel
theorem dX10_tokenAt_9 : decode cX10_tokenAt 9 = .ok (.ireturn, 1) := by decide +kernel
theorem dX10_tokenAt_10 : decode cX10_tokenAt 10 = .ok (.aload_n 0, 1) := by decide +kernel
theorem dX10_tokenAt_11 : decode cX10_tokenAt 11 = .ok (.invokevirtual 184, 3) := by decide +kernel
theorem dX10_tokenAt_14 : decode cX10_tokenAt 14 = .ok (.iconst 0, 1) := by decide +kernel
theorem dX10_tokenAt_15 : decode cX10_tokenAt 15 = .ok (.istore_n 2, 1) := by decide +kernel
theorem dX10_tokenAt_16 : decode cX10_tokenAt 16 = .ok (.aload_n 0, 1) := by decide +kernel
theorem dX10_tokenAt_17 : decode cX10_tokenAt 17 = .ok (.getfield 16, 3) := by decide +kernel
theorem dX10_tokenAt_20 : decode cX10_tokenAt 20 = .ok (.iload_n 2, 1) := by decide +kernel
theorem dX10_tokenAt_21 : decode cX10_tokenAt 21 = .ok (.iaload, 1) := by decide +kernel
theorem dX10_tokenAt_22 : decode cX10_tokenAt 22 = .ok (.aload_n 0, 1) := by decide +kernel
theorem dX10_tokenAt_23 : decode cX10_tokenAt 23 = .ok (.getfield 19, 3) := by decide +kernel
theorem dX10_tokenAt_26 : decode cX10_tokenAt 26 = .ok (.iload_n 2, 1) := by decide +kernel
theorem dX10_tokenAt_27 : decode cX10_tokenAt 27 = .ok (.iaload, 1) := by decide +kernel
theorem dX10_tokenAt_28 : decode cX10_tokenAt 28 = .ok (.iadd, 1) := by decide +kernel
theorem dX10_tokenAt_29 : decode cX10_tokenAt 29 = .ok (.iload_n 1, 1) := by decide +kernel
theorem dX10_tokenAt_30 : decode cX10_tokenAt 30 = .ok (.if_icmp .gt 9, 3) := by decide +kernel
theorem dX10_tokenAt_33 : decode cX10_tokenAt 33 = .ok (.iinc 2 1, 3) := by decide +kernel
theorem dX10_tokenAt_36 : decode cX10_tokenAt 36 = .ok (.goto (-20), 3) := by decide +kernel
theorem dX10_tokenAt_39 : decode cX10_tokenAt 39 = .ok (.iload_n 2, 1) := by decide +kernel
theorem dX10_tokenAt_40 : decode cX10_tokenAt 40 = .ok (.ireturn, 1) := by decide +kernel
theorem dX10_findingsOf_0 : decode cX10_findingsOf 0 = .ok (.aload_n 0, 1) := by decide +kernel
theorem dX10_findingsOf_1 : decode cX10_findingsOf 1 = .ok (.invokevirtual 229, 3) := by decide +kernel
theorem dX10_findingsOf_4 : decode cX10_findingsOf 4 = .ok (.iconst 0, 1) := by decide +kernel
theorem dX10_findingsOf_5 : decode cX10_findingsOf 5 = .ok (.istore_n 2, 1) := by decide +kernel
theorem dX10_findingsOf_6 : decode cX10_findingsOf 6 = .ok (.iconst 0, 1) := by decide +kernel
theorem dX10_findingsOf_7 : decode cX10_findingsOf 7 = .ok (.istore_n 3, 1) := by decide +kernel
theorem dX10_findingsOf_8 : decode cX10_findingsOf 8 = .ok (.iload_n 3, 1) := by decide +kernel
theorem dX10_findingsOf_9 : decode cX10_findingsOf 9 = .ok (.aload_n 0, 1) := by decide +kernel
theorem dX10_findingsOf_10 : decode cX10_findingsOf 10 = .ok (.getfield 175, 3) := by decide +kernel
theorem dX10_findingsOf_13 : decode cX10_findingsOf 13 = .ok (.if_icmp .ge 27, 3) := by decide +kernel
theorem dX10_findingsOf_16 : decode cX10_findingsOf 16 = .ok (.iload_n 2, 1) := by decide +kernel
theorem dX10_findingsOf_17 : decode cX10_findingsOf 17 = .ok (.aload_n 0, 1) := by decide +kernel
theorem dX10_findingsOf_18 : decode cX10_findingsOf 18 = .ok (.getfield 28, 3) := by decide +kernel
theorem dX10_findingsOf_21 : decode cX10_findingsOf 21 = .ok (.iload_n 3, 1) := by decide +kernel
theorem dX10_findingsOf_22 : decode cX10_findingsOf 22 = .ok (.iaload, 1) := by decide +kernel
theorem dX10_findingsOf_23 : decode cX10_findingsOf 23 = .ok (.iload_n 1, 1) := by decide +kernel
theorem dX10_findingsOf_24 : decode cX10_findingsOf 24 = .ok (.if_icmp .ne 7, 3) := by decide +kernel
theorem dX10_findingsOf_27 : decode cX10_findingsOf 27 = .ok (.iconst 1, 1) := by decide +kernel
theorem dX10_findingsOf_28 : decode cX10_findingsOf 28 = .ok (.goto 4, 3) := by decide +kernel
theorem dX10_findingsOf_31 : decode cX10_findingsOf 31 = .ok (.iconst 0, 1) := by decide +kernel
theorem dX10_findingsOf_32 : decode cX10_findingsOf 32 = .ok (.iadd, 1) := by decide +kernel
theorem dX10_findingsOf_33 : decode cX10_findingsOf 33 = .ok (.istore_n 2, 1) := by decide +kernel
theorem dX10_findingsOf_34 : decode cX10_findingsOf 34 = .ok (.iinc 3 1, 3) := by decide +kernel
theorem dX10_findingsOf_37 : decode cX10_findingsOf 37 = .ok (.goto (-29), 3) := by decide +kernel
theorem dX10_findingsOf_40 : decode cX10_findingsOf 40 = .ok (.iload_n 2, 1) := by decide +kernel
theorem dX10_findingsOf_41 : decode cX10_findingsOf 41 = .ok (.ireturn, 1) := by decide +kernel
theorem dX10_rule_0 : decode cX10_rule 0 = .ok (.aload_n 0, 1) := by decide +kernel
theorem dX10_rule_1 : decode cX10_rule 1 = .ok (.iload_n 1, 1) := by decide +kernel
theorem dX10_rule_2 : decode cX10_rule 2 = .ok (.invokevirtual 317, 3) := by decide +kernel
theorem dX10_rule_5 : decode cX10_rule 5 = .ok (.ifCond .ne 5, 3) := by decide +kernel
theorem dX10_rule_8 : decode cX10_rule 8 = .ok (.iconst (-1), 1) := by decide +kernel
theorem dX10_rule_9 : decode cX10_rule 9 = .ok (.ireturn, 1) := by decide +kernel
theorem dX10_rule_10 : decode cX10_rule 10 = .ok (.iload_n 2, 1) := by decide +kernel
theorem dX10_rule_11 : decode cX10_rule 11 = .ok (.tableswitch 67 0 4 #[33, 40, 47, 54, 61], 33) := by decide +kernel
theorem dX10_rule_44 : decode cX10_rule 44 = .ok (.aload_n 0, 1) := by decide +kernel
theorem dX10_rule_45 : decode cX10_rule 45 = .ok (.iload_n 1, 1) := by decide +kernel
theorem dX10_rule_46 : decode cX10_rule 46 = .ok (.iconst 0, 1) := by decide +kernel
theorem dX10_rule_47 : decode cX10_rule 47 = .ok (.invokevirtual 127, 3) := by decide +kernel
theorem dX10_rule_50 : decode cX10_rule 50 = .ok (.ireturn, 1) := by decide +kernel
theorem dX10_rule_51 : decode cX10_rule 51 = .ok (.aload_n 0, 1) := by decide +kernel
theorem dX10_rule_52 : decode cX10_rule 52 = .ok (.iload_n 1, 1) := by decide +kernel
theorem dX10_rule_53 : decode cX10_rule 53 = .ok (.iconst 2, 1) := by decide +kernel
theorem dX10_rule_54 : decode cX10_rule 54 = .ok (.invokevirtual 127, 3) := by decide +kernel
theorem dX10_rule_57 : decode cX10_rule 57 = .ok (.ireturn, 1) := by decide +kernel
theorem dX10_rule_58 : decode cX10_rule 58 = .ok (.aload_n 0, 1) := by decide +kernel
theorem dX10_rule_59 : decode cX10_rule 59 = .ok (.iload_n 1, 1) := by decide +kernel
theorem dX10_rule_60 : decode cX10_rule 60 = .ok (.iconst 3, 1) := by decide +kernel
theorem dX10_rule_61 : decode cX10_rule 61 = .ok (.invokevirtual 127, 3) := by decide +kernel
theorem dX10_rule_64 : decode cX10_rule 64 = .ok (.ireturn, 1) := by decide +kernel
theorem dX10_rule_65 : decode cX10_rule 65 = .ok (.aload_n 0, 1) := by decide +kernel
theorem dX10_rule_66 : decode cX10_rule 66 = .ok (.iload_n 1, 1) := by decide +kernel
theorem dX10_rule_67 : decode cX10_rule 67 = .ok (.iconst 1, 1) := by decide +kernel
theorem dX10_rule_68 : decode cX10_rule 68 = .ok (.invokevirtual 127, 3) := by decide +kernel
theorem dX10_rule_71 : decode cX10_rule 71 = .ok (.ireturn, 1) := by decide +kernel
theorem dX10_rule_72 : decode cX10_rule 72 = .ok (.aload_n 0, 1) := by decide +kernel
theorem dX10_rule_73 : decode cX10_rule 73 = .ok (.iload_n 1, 1) := by decide +kernel
theorem dX10_rule_74 : decode cX10_rule 74 = .ok (.invokevirtual 354, 3) := by decide +kernel
theorem dX10_rule_77 : decode cX10_rule 77 = .ok (.ireturn, 1) := by decide +kernel
theorem dX10_rule_78 : decode cX10_rule 78 = .ok (.iconst (-1), 1) := by decide +kernel
theorem dX10_rule_79 : decode cX10_rule 79 = .ok (.ireturn, 1) := by decide +kernel
theorem dX10_fits_0 : decode cX10_fits 0 = .ok (.aload_n 0, 1) := by decide +kernel
theorem dX10_fits_1 : decode cX10_fits 1 = .ok (.invokevirtual 184, 3) := by decide +kernel
theorem dX10_fits_4 : decode cX10_fits 4 = .ok (.aload_n 0, 1) := by decide +kernel
theorem dX10_fits_5 : decode cX10_fits 5 = .ok (.iload_n 1, 1) := by decide +kernel
theorem dX10_fits_6 : decode cX10_fits 6 = .ok (.invokevirtual 317, 3) := by decide +kernel
theorem dX10_fits_9 : decode cX10_fits 9 = .ok (.ifCond .eq 30, 3) := by decide +kernel
theorem dX10_fits_12 : decode cX10_fits 12 = .ok (.iload_n 2, 1) := by decide +kernel
theorem dX10_fits_13 : decode cX10_fits 13 = .ok (.iconst 0, 1) := by decide +kernel
theorem dX10_fits_14 : decode cX10_fits 14 = .ok (.aload_n 0, 1) := by decide +kernel
theorem dX10_fits_15 : decode cX10_fits 15 = .ok (.getfield 117, 3) := by decide +kernel
theorem dX10_fits_18 : decode cX10_fits 18 = .ok (.iconst 1, 1) := by decide +kernel
theorem dX10_fits_19 : decode cX10_fits 19 = .ok (.isub, 1) := by decide +kernel
theorem dX10_fits_20 : decode cX10_fits 20 = .ok (.invokestatic 103, 3) := by decide +kernel
theorem dX10_fits_23 : decode cX10_fits 23 = .ok (.ifCond .eq 16, 3) := by decide +kernel
theorem dX10_fits_26 : decode cX10_fits 26 = .ok (.aload_n 0, 1) := by decide +kernel
theorem dX10_fits_27 : decode cX10_fits 27 = .ok (.iload_n 1, 1) := by decide +kernel
theorem dX10_fits_28 : decode cX10_fits 28 = .ok (.iload_n 2, 1) := by decide +kernel
theorem dX10_fits_29 : decode cX10_fits 29 = .ok (.invokevirtual 162, 3) := by decide +kernel
theorem dX10_fits_32 : decode cX10_fits 32 = .ok (.ifCond .eq 7, 3) := by decide +kernel
theorem dX10_fits_35 : decode cX10_fits 35 = .ok (.iconst 1, 1) := by decide +kernel
theorem dX10_fits_36 : decode cX10_fits 36 = .ok (.goto 4, 3) := by decide +kernel
theorem dX10_fits_39 : decode cX10_fits 39 = .ok (.iconst 0, 1) := by decide +kernel
theorem dX10_fits_40 : decode cX10_fits 40 = .ok (.ireturn, 1) := by decide +kernel
theorem dX10_finding_0 : decode cX10_finding 0 = .ok (.aload_n 0, 1) := by decide +kernel
theorem dX10_finding_1 : decode cX10_finding 1 = .ok (.iload_n 1, 1) := by decide +kernel
