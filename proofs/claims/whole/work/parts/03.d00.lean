theorem dX0_init_0 : decode cX0_init 0 = .ok (.aload_n 0, 1) := by decide +kernel
theorem dX0_init_1 : decode cX0_init 1 = .ok (.invokespecial 3, 3) := by decide +kernel
theorem dX0_init_4 : decode cX0_init 4 = .ok (.aload_n 0, 1) := by decide +kernel
theorem dX0_init_5 : decode cX0_init 5 = .ok (.sipush 200, 3) := by decide +kernel
theorem dX0_init_8 : decode cX0_init 8 = .ok (.newarray .int, 2) := by decide +kernel
theorem dX0_init_10 : decode cX0_init 10 = .ok (.putfield 9, 3) := by decide +kernel
theorem dX0_init_13 : decode cX0_init 13 = .ok (.aload_n 0, 1) := by decide +kernel
theorem dX0_init_14 : decode cX0_init 14 = .ok (.sipush 200, 3) := by decide +kernel
theorem dX0_init_17 : decode cX0_init 17 = .ok (.newarray .int, 2) := by decide +kernel
theorem dX0_init_19 : decode cX0_init 19 = .ok (.putfield 15, 3) := by decide +kernel
theorem dX0_init_22 : decode cX0_init 22 = .ok (.return_, 1) := by decide +kernel
theorem dX0_partnerOf_0 : decode cX0_partnerOf 0 = .ok (.aload_n 0, 1) := by decide +kernel
theorem dX0_partnerOf_1 : decode cX0_partnerOf 1 = .ok (.aload_n 1, 1) := by decide +kernel
theorem dX0_partnerOf_2 : decode cX0_partnerOf 2 = .ok (.invokevirtual 18, 3) := by decide +kernel
theorem dX0_partnerOf_5 : decode cX0_partnerOf 5 = .ok (.iload_n 2, 1) := by decide +kernel
theorem dX0_partnerOf_6 : decode cX0_partnerOf 6 = .ok (.ifCond .lt 20, 3) := by decide +kernel
theorem dX0_partnerOf_9 : decode cX0_partnerOf 9 = .ok (.iload_n 2, 1) := by decide +kernel
theorem dX0_partnerOf_10 : decode cX0_partnerOf 10 = .ok (.aload_n 1, 1) := by decide +kernel
theorem dX0_partnerOf_11 : decode cX0_partnerOf 11 = .ok (.getfield 22, 3) := by decide +kernel
theorem dX0_partnerOf_14 : decode cX0_partnerOf 14 = .ok (.if_icmp .ge 12, 3) := by decide +kernel
theorem dX0_partnerOf_17 : decode cX0_partnerOf 17 = .ok (.aload_n 0, 1) := by decide +kernel
theorem dX0_partnerOf_18 : decode cX0_partnerOf 18 = .ok (.getfield 9, 3) := by decide +kernel
theorem dX0_partnerOf_21 : decode cX0_partnerOf 21 = .ok (.iload_n 2, 1) := by decide +kernel
theorem dX0_partnerOf_22 : decode cX0_partnerOf 22 = .ok (.iaload, 1) := by decide +kernel
theorem dX0_partnerOf_23 : decode cX0_partnerOf 23 = .ok (.goto 4, 3) := by decide +kernel
theorem dX0_partnerOf_26 : decode cX0_partnerOf 26 = .ok (.iconst (-1), 1) := by decide +kernel
theorem dX0_partnerOf_27 : decode cX0_partnerOf 27 = .ok (.ireturn, 1) := by decide +kernel
theorem dX0_countUnpaired_0 : decode cX0_countUnpaired 0 = .ok (.aload_n 0, 1) := by decide +kernel
theorem dX0_countUnpaired_1 : decode cX0_countUnpaired 1 = .ok (.aload_n 1, 1) := by decide +kernel
theorem dX0_countUnpaired_2 : decode cX0_countUnpaired 2 = .ok (.invokevirtual 18, 3) := by decide +kernel
theorem dX0_countUnpaired_5 : decode cX0_countUnpaired 5 = .ok (.iconst 0, 1) := by decide +kernel
theorem dX0_countUnpaired_6 : decode cX0_countUnpaired 6 = .ok (.istore_n 2, 1) := by decide +kernel
theorem dX0_countUnpaired_7 : decode cX0_countUnpaired 7 = .ok (.iconst 0, 1) := by decide +kernel
theorem dX0_countUnpaired_8 : decode cX0_countUnpaired 8 = .ok (.istore_n 3, 1) := by decide +kernel
theorem dX0_countUnpaired_9 : decode cX0_countUnpaired 9 = .ok (.iload_n 3, 1) := by decide +kernel
theorem dX0_countUnpaired_10 : decode cX0_countUnpaired 10 = .ok (.aload_n 1, 1) := by decide +kernel
theorem dX0_countUnpaired_11 : decode cX0_countUnpaired 11 = .ok (.getfield 22, 3) := by decide +kernel
theorem dX0_countUnpaired_14 : decode cX0_countUnpaired 14 = .ok (.if_icmp .ge 59, 3) := by decide +kernel
theorem dX0_countUnpaired_17 : decode cX0_countUnpaired 17 = .ok (.aload_n 1, 1) := by decide +kernel
theorem dX0_countUnpaired_18 : decode cX0_countUnpaired 18 = .ok (.getfield 28, 3) := by decide +kernel
theorem dX0_countUnpaired_21 : decode cX0_countUnpaired 21 = .ok (.iload_n 3, 1) := by decide +kernel
theorem dX0_countUnpaired_22 : decode cX0_countUnpaired 22 = .ok (.baload, 1) := by decide +kernel
theorem dX0_countUnpaired_23 : decode cX0_countUnpaired 23 = .ok (.invokestatic 32, 3) := by decide +kernel
theorem dX0_countUnpaired_26 : decode cX0_countUnpaired 26 = .ok (.iconst (-1), 1) := by decide +kernel
theorem dX0_countUnpaired_27 : decode cX0_countUnpaired 27 = .ok (.if_icmp .ne 15, 3) := by decide +kernel
theorem dX0_countUnpaired_30 : decode cX0_countUnpaired 30 = .ok (.aload_n 1, 1) := by decide +kernel
theorem dX0_countUnpaired_31 : decode cX0_countUnpaired 31 = .ok (.getfield 28, 3) := by decide +kernel
theorem dX0_countUnpaired_34 : decode cX0_countUnpaired 34 = .ok (.iload_n 3, 1) := by decide +kernel
theorem dX0_countUnpaired_35 : decode cX0_countUnpaired 35 = .ok (.baload, 1) := by decide +kernel
theorem dX0_countUnpaired_36 : decode cX0_countUnpaired 36 = .ok (.invokestatic 36, 3) := by decide +kernel
theorem dX0_countUnpaired_39 : decode cX0_countUnpaired 39 = .ok (.ifCond .eq 7, 3) := by decide +kernel
theorem dX0_countUnpaired_42 : decode cX0_countUnpaired 42 = .ok (.iconst 1, 1) := by decide +kernel
theorem dX0_countUnpaired_43 : decode cX0_countUnpaired 43 = .ok (.goto 4, 3) := by decide +kernel
theorem dX0_countUnpaired_46 : decode cX0_countUnpaired 46 = .ok (.iconst 0, 1) := by decide +kernel
theorem dX0_countUnpaired_47 : decode cX0_countUnpaired 47 = .ok (.istore 4, 2) := by decide +kernel
theorem dX0_countUnpaired_49 : decode cX0_countUnpaired 49 = .ok (.iload 4, 2) := by decide +kernel
theorem dX0_countUnpaired_51 : decode cX0_countUnpaired 51 = .ok (.ifCond .eq 16, 3) := by decide +kernel
theorem dX0_countUnpaired_54 : decode cX0_countUnpaired 54 = .ok (.aload_n 0, 1) := by decide +kernel
theorem dX0_countUnpaired_55 : decode cX0_countUnpaired 55 = .ok (.getfield 9, 3) := by decide +kernel
theorem dX0_countUnpaired_58 : decode cX0_countUnpaired 58 = .ok (.iload_n 3, 1) := by decide +kernel
theorem dX0_countUnpaired_59 : decode cX0_countUnpaired 59 = .ok (.iaload, 1) := by decide +kernel
theorem dX0_countUnpaired_60 : decode cX0_countUnpaired 60 = .ok (.iconst (-1), 1) := by decide +kernel
theorem dX0_countUnpaired_61 : decode cX0_countUnpaired 61 = .ok (.if_icmp .ne 6, 3) := by decide +kernel
theorem dX0_countUnpaired_64 : decode cX0_countUnpaired 64 = .ok (.iinc 2 1, 3) := by decide +kernel
theorem dX0_countUnpaired_67 : decode cX0_countUnpaired 67 = .ok (.iinc 3 1, 3) := by decide +kernel
theorem dX0_countUnpaired_70 : decode cX0_countUnpaired 70 = .ok (.goto (-61), 3) := by decide +kernel
theorem dX0_countUnpaired_73 : decode cX0_countUnpaired 73 = .ok (.iload_n 2, 1) := by decide +kernel
theorem dX0_countUnpaired_74 : decode cX0_countUnpaired 74 = .ok (.ireturn, 1) := by decide +kernel
theorem dX0_pair_0 : decode cX0_pair 0 = .ok (.iconst 0, 1) := by decide +kernel
theorem dX0_pair_1 : decode cX0_pair 1 = .ok (.istore_n 2, 1) := by decide +kernel
theorem dX0_pair_2 : decode cX0_pair 2 = .ok (.iconst 0, 1) := by decide +kernel
theorem dX0_pair_3 : decode cX0_pair 3 = .ok (.istore_n 3, 1) := by decide +kernel
theorem dX0_pair_4 : decode cX0_pair 4 = .ok (.iload_n 3, 1) := by decide +kernel
theorem dX0_pair_5 : decode cX0_pair 5 = .ok (.aload_n 1, 1) := by decide +kernel
theorem dX0_pair_6 : decode cX0_pair 6 = .ok (.getfield 22, 3) := by decide +kernel
theorem dX0_pair_9 : decode cX0_pair 9 = .ok (.if_icmp .ge 106, 3) := by decide +kernel
theorem dX0_pair_12 : decode cX0_pair 12 = .ok (.aload_n 1, 1) := by decide +kernel
theorem dX0_pair_13 : decode cX0_pair 13 = .ok (.getfield 28, 3) := by decide +kernel
theorem dX0_pair_16 : decode cX0_pair 16 = .ok (.iload_n 3, 1) := by decide +kernel
theorem dX0_pair_17 : decode cX0_pair 17 = .ok (.baload, 1) := by decide +kernel
theorem dX0_pair_18 : decode cX0_pair 18 = .ok (.istore 4, 2) := by decide +kernel
theorem dX0_pair_20 : decode cX0_pair 20 = .ok (.aload_n 0, 1) := by decide +kernel
theorem dX0_pair_21 : decode cX0_pair 21 = .ok (.getfield 9, 3) := by decide +kernel
theorem dX0_pair_24 : decode cX0_pair 24 = .ok (.iload_n 3, 1) := by decide +kernel
theorem dX0_pair_25 : decode cX0_pair 25 = .ok (.iconst (-1), 1) := by decide +kernel
theorem dX0_pair_26 : decode cX0_pair 26 = .ok (.iastore, 1) := by decide +kernel
theorem dX0_pair_27 : decode cX0_pair 27 = .ok (.iload 4, 2) := by decide +kernel
theorem dX0_pair_29 : decode cX0_pair 29 = .ok (.invokestatic 32, 3) := by decide +kernel
theorem dX0_pair_32 : decode cX0_pair 32 = .ok (.iconst (-1), 1) := by decide +kernel
theorem dX0_pair_33 : decode cX0_pair 33 = .ok (.if_icmp .eq 16, 3) := by decide +kernel
theorem dX0_pair_36 : decode cX0_pair 36 = .ok (.aload_n 0, 1) := by decide +kernel
theorem dX0_pair_37 : decode cX0_pair 37 = .ok (.getfield 15, 3) := by decide +kernel
theorem dX0_pair_40 : decode cX0_pair 40 = .ok (.iload_n 2, 1) := by decide +kernel
theorem dX0_pair_41 : decode cX0_pair 41 = .ok (.iload_n 3, 1) := by decide +kernel
theorem dX0_pair_42 : decode cX0_pair 42 = .ok (.iastore, 1) := by decide +kernel
theorem dX0_pair_43 : decode cX0_pair 43 = .ok (.iinc 2 1, 3) := by decide +kernel
theorem dX0_pair_46 : decode cX0_pair 46 = .ok (.goto 63, 3) := by decide +kernel
theorem dX0_pair_49 : decode cX0_pair 49 = .ok (.iload 4, 2) := by decide +kernel
theorem dX0_pair_51 : decode cX0_pair 51 = .ok (.invokestatic 36, 3) := by decide +kernel
theorem dX0_pair_54 : decode cX0_pair 54 = .ok (.ifCond .eq 55, 3) := by decide +kernel
theorem dX0_pair_57 : decode cX0_pair 57 = .ok (.iload_n 2, 1) := by decide +kernel
theorem dX0_pair_58 : decode cX0_pair 58 = .ok (.ifCond .le 51, 3) := by decide +kernel
theorem dX0_pair_61 : decode cX0_pair 61 = .ok (.aload_n 1, 1) := by decide +kernel
theorem dX0_pair_62 : decode cX0_pair 62 = .ok (.getfield 28, 3) := by decide +kernel
theorem dX0_pair_65 : decode cX0_pair 65 = .ok (.aload_n 0, 1) := by decide +kernel
theorem dX0_pair_66 : decode cX0_pair 66 = .ok (.getfield 15, 3) := by decide +kernel
theorem dX0_pair_69 : decode cX0_pair 69 = .ok (.iload_n 2, 1) := by decide +kernel
theorem dX0_pair_70 : decode cX0_pair 70 = .ok (.iconst 1, 1) := by decide +kernel
theorem dX0_pair_71 : decode cX0_pair 71 = .ok (.isub, 1) := by decide +kernel
theorem dX0_pair_72 : decode cX0_pair 72 = .ok (.iaload, 1) := by decide +kernel
theorem dX0_pair_73 : decode cX0_pair 73 = .ok (.baload, 1) := by decide +kernel
theorem dX0_pair_74 : decode cX0_pair 74 = .ok (.invokestatic 32, 3) := by decide +kernel
theorem dX0_pair_77 : decode cX0_pair 77 = .ok (.iload 4, 2) := by decide +kernel
theorem dX0_pair_79 : decode cX0_pair 79 = .ok (.if_icmp .ne 30, 3) := by decide +kernel
theorem dX0_pair_82 : decode cX0_pair 82 = .ok (.iinc 2 (-1), 3) := by decide +kernel
theorem dX0_pair_85 : decode cX0_pair 85 = .ok (.aload_n 0, 1) := by decide +kernel
theorem dX0_pair_86 : decode cX0_pair 86 = .ok (.getfield 9, 3) := by decide +kernel
theorem dX0_pair_89 : decode cX0_pair 89 = .ok (.iload_n 3, 1) := by decide +kernel
theorem dX0_pair_90 : decode cX0_pair 90 = .ok (.aload_n 0, 1) := by decide +kernel
theorem dX0_pair_91 : decode cX0_pair 91 = .ok (.getfield 15, 3) := by decide +kernel
theorem dX0_pair_94 : decode cX0_pair 94 = .ok (.iload_n 2, 1) := by decide +kernel
theorem dX0_pair_95 : decode cX0_pair 95 = .ok (.iaload, 1) := by decide +kernel
theorem dX0_pair_96 : decode cX0_pair 96 = .ok (.iastore, 1) := by decide +kernel
theorem dX0_pair_97 : decode cX0_pair 97 = .ok (.aload_n 0, 1) := by decide +kernel
theorem dX0_pair_98 : decode cX0_pair 98 = .ok (.getfield 9, 3) := by decide +kernel
theorem dX0_pair_101 : decode cX0_pair 101 = .ok (.aload_n 0, 1) := by decide +kernel
theorem dX0_pair_102 : decode cX0_pair 102 = .ok (.getfield 15, 3) := by decide +kernel
theorem dX0_pair_105 : decode cX0_pair 105 = .ok (.iload_n 2, 1) := by decide +kernel
theorem dX0_pair_106 : decode cX0_pair 106 = .ok (.iaload, 1) := by decide +kernel
theorem dX0_pair_107 : decode cX0_pair 107 = .ok (.iload_n 3, 1) := by decide +kernel
theorem dX0_pair_108 : decode cX0_pair 108 = .ok (.iastore, 1) := by decide +kernel
theorem dX0_pair_109 : decode cX0_pair 109 = .ok (.iinc 3 1, 3) := by decide +kernel
theorem dX0_pair_112 : decode cX0_pair 112 = .ok (.goto (-108), 3) := by decide +kernel
theorem dX0_pair_115 : decode cX0_pair 115 = .ok (.return_, 1) := by decide +kernel
theorem dX0_closerOf_0 : decode cX0_closerOf 0 = .ok (.iload_n 0, 1) := by decide +kernel
theorem dX0_closerOf_1 : decode cX0_closerOf 1 = .ok (.lookupswitch 44 #[(40, 35), (91, 38), (123, 41)], 35) := by decide +kernel
theorem dX0_closerOf_36 : decode cX0_closerOf 36 = .ok (.bipush 41, 2) := by decide +kernel
theorem dX0_closerOf_38 : decode cX0_closerOf 38 = .ok (.ireturn, 1) := by decide +kernel
theorem dX0_closerOf_39 : decode cX0_closerOf 39 = .ok (.bipush 93, 2) := by decide +kernel
theorem dX0_closerOf_41 : decode cX0_closerOf 41 = .ok (.ireturn, 1) := by decide +kernel
theorem dX0_closerOf_42 : decode cX0_closerOf 42 = .ok (.bipush 125, 2) := by decide +kernel
theorem dX0_closerOf_44 : decode cX0_closerOf 44 = .ok (.ireturn, 1) := by decide +kernel
theorem dX0_closerOf_45 : decode cX0_closerOf 45 = .ok (.iconst (-1), 1) := by decide +kernel
theorem dX0_closerOf_46 : decode cX0_closerOf 46 = .ok (.ireturn, 1) := by decide +kernel
theorem dX0_isCloser_0 : decode cX0_isCloser 0 = .ok (.iload_n 0, 1) := by decide +kernel
theorem dX0_isCloser_1 : decode cX0_isCloser 1 = .ok (.bipush 41, 2) := by decide +kernel
theorem dX0_isCloser_3 : decode cX0_isCloser 3 = .ok (.if_icmp .eq 15, 3) := by decide +kernel
theorem dX0_isCloser_6 : decode cX0_isCloser 6 = .ok (.iload_n 0, 1) := by decide +kernel
theorem dX0_isCloser_7 : decode cX0_isCloser 7 = .ok (.bipush 93, 2) := by decide +kernel
theorem dX0_isCloser_9 : decode cX0_isCloser 9 = .ok (.if_icmp .eq 9, 3) := by decide +kernel
theorem dX0_isCloser_12 : decode cX0_isCloser 12 = .ok (.iload_n 0, 1) := by decide +kernel
theorem dX0_isCloser_13 : decode cX0_isCloser 13 = .ok (.bipush 125, 2) := by decide +kernel
theorem dX0_isCloser_15 : decode cX0_isCloser 15 = .ok (.if_icmp .ne 7, 3) := by decide +kernel
theorem dX0_isCloser_18 : decode cX0_isCloser 18 = .ok (.iconst 1, 1) := by decide +kernel
theorem dX0_isCloser_19 : decode cX0_isCloser 19 = .ok (.goto 4, 3) := by decide +kernel
theorem dX0_isCloser_22 : decode cX0_isCloser 22 = .ok (.iconst 0, 1) := by decide +kernel
theorem dX0_isCloser_23 : decode cX0_isCloser 23 = .ok (.ireturn, 1) := by decide +kernel
theorem dX1_init_0 : decode cX1_init 0 = .ok (.aload_n 0, 1) := by decide +kernel
theorem dX1_init_1 : decode cX1_init 1 = .ok (.invokespecial 3, 3) := by decide +kernel
theorem dX1_init_4 : decode cX1_init 4 = .ok (.aload_n 0, 1) := by decide +kernel
theorem dX1_init_5 : decode cX1_init 5 = .ok (.new 9, 3) := by decide +kernel
theorem dX1_init_8 : decode cX1_init 8 = .ok (.dup, 1) := by decide +kernel
theorem dX1_init_9 : decode cX1_init 9 = .ok (.invokespecial 11, 3) := by decide +kernel
theorem dX1_init_12 : decode cX1_init 12 = .ok (.putfield 12, 3) := by decide +kernel
theorem dX1_init_15 : decode cX1_init 15 = .ok (.aload_n 0, 1) := by decide +kernel
theorem dX1_init_16 : decode cX1_init 16 = .ok (.sipush 1500, 3) := by decide +kernel
theorem dX1_init_19 : decode cX1_init 19 = .ok (.newarray .byte, 2) := by decide +kernel
theorem dX1_init_21 : decode cX1_init 21 = .ok (.putfield 18, 3) := by decide +kernel
theorem dX1_init_24 : decode cX1_init 24 = .ok (.aload_n 0, 1) := by decide +kernel
theorem dX1_init_25 : decode cX1_init 25 = .ok (.sipush 1200, 3) := by decide +kernel
theorem dX1_init_28 : decode cX1_init 28 = .ok (.newarray .int, 2) := by decide +kernel
theorem dX1_init_30 : decode cX1_init 30 = .ok (.putfield 22, 3) := by decide +kernel
theorem dX1_init_33 : decode cX1_init 33 = .ok (.aload_n 0, 1) := by decide +kernel
theorem dX1_init_34 : decode cX1_init 34 = .ok (.sipush 1200, 3) := by decide +kernel
theorem dX1_init_37 : decode cX1_init 37 = .ok (.newarray .int, 2) := by decide +kernel
theorem dX1_init_39 : decode cX1_init 39 = .ok (.putfield 26, 3) := by decide +kernel
theorem dX1_init_42 : decode cX1_init 42 = .ok (.aload_n 0, 1) := by decide +kernel
theorem dX1_init_43 : decode cX1_init 43 = .ok (.sipush 1200, 3) := by decide +kernel
theorem dX1_init_46 : decode cX1_init 46 = .ok (.newarray .int, 2) := by decide +kernel
theorem dX1_init_48 : decode cX1_init 48 = .ok (.putfield 29, 3) := by decide +kernel
theorem dX1_init_51 : decode cX1_init 51 = .ok (.aload_n 0, 1) := by decide +kernel
theorem dX1_init_52 : decode cX1_init 52 = .ok (.sipush 1200, 3) := by decide +kernel
theorem dX1_init_55 : decode cX1_init 55 = .ok (.newarray .int, 2) := by decide +kernel
theorem dX1_init_57 : decode cX1_init 57 = .ok (.putfield 32, 3) := by decide +kernel
theorem dX1_init_60 : decode cX1_init 60 = .ok (.aload_n 0, 1) := by decide +kernel
theorem dX1_init_61 : decode cX1_init 61 = .ok (.sipush 1200, 3) := by decide +kernel
theorem dX1_init_64 : decode cX1_init 64 = .ok (.newarray .int, 2) := by decide +kernel
theorem dX1_init_66 : decode cX1_init 66 = .ok (.putfield 35, 3) := by decide +kernel
theorem dX1_init_69 : decode cX1_init 69 = .ok (.aload_n 0, 1) := by decide +kernel
theorem dX1_init_70 : decode cX1_init 70 = .ok (.sipush 1200, 3) := by decide +kernel
theorem dX1_init_73 : decode cX1_init 73 = .ok (.newarray .int, 2) := by decide +kernel
theorem dX1_init_75 : decode cX1_init 75 = .ok (.putfield 38, 3) := by decide +kernel
theorem dX1_init_78 : decode cX1_init 78 = .ok (.aload_n 0, 1) := by decide +kernel
theorem dX1_init_79 : decode cX1_init 79 = .ok (.sipush 201, 3) := by decide +kernel
theorem dX1_init_82 : decode cX1_init 82 = .ok (.newarray .int, 2) := by decide +kernel
theorem dX1_init_84 : decode cX1_init 84 = .ok (.putfield 41, 3) := by decide +kernel
theorem dX1_init_87 : decode cX1_init 87 = .ok (.aload_n 0, 1) := by decide +kernel
theorem dX1_init_88 : decode cX1_init 88 = .ok (.sipush 4221, 3) := by decide +kernel
theorem dX1_init_91 : decode cX1_init 91 = .ok (.newarray .int, 2) := by decide +kernel
theorem dX1_init_93 : decode cX1_init 93 = .ok (.putfield 44, 3) := by decide +kernel
theorem dX1_init_96 : decode cX1_init 96 = .ok (.aload_n 0, 1) := by decide +kernel
theorem dX1_init_97 : decode cX1_init 97 = .ok (.sipush 200, 3) := by decide +kernel
theorem dX1_init_100 : decode cX1_init 100 = .ok (.newarray .int, 2) := by decide +kernel
theorem dX1_init_102 : decode cX1_init 102 = .ok (.putfield 47, 3) := by decide +kernel
theorem dX1_init_105 : decode cX1_init 105 = .ok (.aload_n 0, 1) := by decide +kernel
theorem dX1_init_106 : decode cX1_init 106 = .ok (.aload_n 1, 1) := by decide +kernel
theorem dX1_init_107 : decode cX1_init 107 = .ok (.getfield 50, 3) := by decide +kernel
theorem dX1_init_110 : decode cX1_init 110 = .ok (.putfield 56, 3) := by decide +kernel
theorem dX1_init_113 : decode cX1_init 113 = .ok (.aload_n 0, 1) := by decide +kernel
theorem dX1_init_114 : decode cX1_init 114 = .ok (.aload_n 1, 1) := by decide +kernel
theorem dX1_init_115 : decode cX1_init 115 = .ok (.getfield 57, 3) := by decide +kernel
theorem dX1_init_118 : decode cX1_init 118 = .ok (.putfield 61, 3) := by decide +kernel
theorem dX1_init_121 : decode cX1_init 121 = .ok (.return_, 1) := by decide +kernel
theorem dX1_look_0 : decode cX1_look 0 = .ok (.aload_n 0, 1) := by decide +kernel
theorem dX1_look_1 : decode cX1_look 1 = .ok (.aload_n 1, 1) := by decide +kernel
theorem dX1_look_2 : decode cX1_look 2 = .ok (.putfield 56, 3) := by decide +kernel
theorem dX1_look_5 : decode cX1_look 5 = .ok (.aload_n 0, 1) := by decide +kernel
theorem dX1_look_6 : decode cX1_look 6 = .ok (.aload_n 2, 1) := by decide +kernel
theorem dX1_look_7 : decode cX1_look 7 = .ok (.getfield 57, 3) := by decide +kernel
theorem dX1_look_10 : decode cX1_look 10 = .ok (.putfield 61, 3) := by decide +kernel
theorem dX1_look_13 : decode cX1_look 13 = .ok (.aload_n 0, 1) := by decide +kernel
theorem dX1_look_14 : decode cX1_look 14 = .ok (.getfield 12, 3) := by decide +kernel
theorem dX1_look_17 : decode cX1_look 17 = .ok (.aload_n 0, 1) := by decide +kernel
theorem dX1_look_18 : decode cX1_look 18 = .ok (.getfield 56, 3) := by decide +kernel
theorem dX1_look_21 : decode cX1_look 21 = .ok (.invokevirtual 62, 3) := by decide +kernel
theorem dX1_look_24 : decode cX1_look 24 = .ok (.aload_n 0, 1) := by decide +kernel
theorem dX1_look_25 : decode cX1_look 25 = .ok (.iconst 0, 1) := by decide +kernel
theorem dX1_look_26 : decode cX1_look 26 = .ok (.putfield 66, 3) := by decide +kernel
theorem dX1_look_29 : decode cX1_look 29 = .ok (.iconst 0, 1) := by decide +kernel
theorem dX1_look_30 : decode cX1_look 30 = .ok (.istore 4, 2) := by decide +kernel
theorem dX1_look_32 : decode cX1_look 32 = .ok (.iload 4, 2) := by decide +kernel
theorem dX1_look_34 : decode cX1_look 34 = .ok (.aload_n 0, 1) := by decide +kernel
theorem dX1_look_35 : decode cX1_look 35 = .ok (.getfield 12, 3) := by decide +kernel
theorem dX1_look_38 : decode cX1_look 38 = .ok (.getfield 70, 3) := by decide +kernel
theorem dX1_look_41 : decode cX1_look 41 = .ok (.if_icmp .ge 86, 3) := by decide +kernel
theorem dX1_look_44 : decode cX1_look 44 = .ok (.aload_n 0, 1) := by decide +kernel
theorem dX1_look_45 : decode cX1_look 45 = .ok (.getfield 41, 3) := by decide +kernel
theorem dX1_look_48 : decode cX1_look 48 = .ok (.iload 4, 2) := by decide +kernel
theorem dX1_look_50 : decode cX1_look 50 = .ok (.aload_n 0, 1) := by decide +kernel
theorem dX1_look_51 : decode cX1_look 51 = .ok (.getfield 66, 3) := by decide +kernel
theorem dX1_look_54 : decode cX1_look 54 = .ok (.iastore, 1) := by decide +kernel
theorem dX1_look_55 : decode cX1_look 55 = .ok (.iconst 0, 1) := by decide +kernel
theorem dX1_look_56 : decode cX1_look 56 = .ok (.istore 5, 2) := by decide +kernel
theorem dX1_look_58 : decode cX1_look 58 = .ok (.iload 5, 2) := by decide +kernel
theorem dX1_look_60 : decode cX1_look 60 = .ok (.aload_n 0, 1) := by decide +kernel
theorem dX1_look_61 : decode cX1_look 61 = .ok (.getfield 61, 3) := by decide +kernel
theorem dX1_look_64 : decode cX1_look 64 = .ok (.getfield 71, 3) := by decide +kernel
theorem dX1_look_67 : decode cX1_look 67 = .ok (.if_icmp .ge 54, 3) := by decide +kernel
theorem dX1_look_70 : decode cX1_look 70 = .ok (.aload_n 0, 1) := by decide +kernel
theorem dX1_look_71 : decode cX1_look 71 = .ok (.getfield 61, 3) := by decide +kernel
theorem dX1_look_74 : decode cX1_look 74 = .ok (.getfield 74, 3) := by decide +kernel
theorem dX1_look_77 : decode cX1_look 77 = .ok (.iload 5, 2) := by decide +kernel
theorem dX1_look_79 : decode cX1_look 79 = .ok (.iaload, 1) := by decide +kernel
theorem dX1_look_80 : decode cX1_look 80 = .ok (.istore 6, 2) := by decide +kernel
theorem dX1_look_82 : decode cX1_look 82 = .ok (.iload_n 3, 1) := by decide +kernel
theorem dX1_look_83 : decode cX1_look 83 = .ok (.iload 6, 2) := by decide +kernel
theorem dX1_look_85 : decode cX1_look 85 = .ok (.ishr, 1) := by decide +kernel
theorem dX1_look_86 : decode cX1_look 86 = .ok (.iconst 1, 1) := by decide +kernel
theorem dX1_look_87 : decode cX1_look 87 = .ok (.iand, 1) := by decide +kernel
theorem dX1_look_88 : decode cX1_look 88 = .ok (.iconst 1, 1) := by decide +kernel
theorem dX1_look_89 : decode cX1_look 89 = .ok (.if_icmp .ne 26, 3) := by decide +kernel
theorem dX1_look_92 : decode cX1_look 92 = .ok (.aload_n 0, 1) := by decide +kernel
theorem dX1_look_93 : decode cX1_look 93 = .ok (.iload 6, 2) := by decide +kernel
theorem dX1_look_95 : decode cX1_look 95 = .ok (.iload 4, 2) := by decide +kernel
theorem dX1_look_97 : decode cX1_look 97 = .ok (.invokevirtual 77, 3) := by decide +kernel
theorem dX1_look_100 : decode cX1_look 100 = .ok (.ifCond .eq 15, 3) := by decide +kernel
theorem dX1_look_103 : decode cX1_look 103 = .ok (.aload_n 0, 1) := by decide +kernel
theorem dX1_look_104 : decode cX1_look 104 = .ok (.iload 6, 2) := by decide +kernel
theorem dX1_look_106 : decode cX1_look 106 = .ok (.iload 4, 2) := by decide +kernel
theorem dX1_look_108 : decode cX1_look 108 = .ok (.aload_n 2, 1) := by decide +kernel
theorem dX1_look_109 : decode cX1_look 109 = .ok (.getfield 81, 3) := by decide +kernel
theorem dX1_look_112 : decode cX1_look 112 = .ok (.invokevirtual 84, 3) := by decide +kernel
theorem dX1_look_115 : decode cX1_look 115 = .ok (.iinc 5 1, 3) := by decide +kernel
theorem dX1_look_118 : decode cX1_look 118 = .ok (.goto (-60), 3) := by decide +kernel
theorem dX1_look_121 : decode cX1_look 121 = .ok (.iinc 4 1, 3) := by decide +kernel
theorem dX1_look_124 : decode cX1_look 124 = .ok (.goto (-92), 3) := by decide +kernel
theorem dX1_look_127 : decode cX1_look 127 = .ok (.aload_n 0, 1) := by decide +kernel
theorem dX1_look_128 : decode cX1_look 128 = .ok (.getfield 41, 3) := by decide +kernel
theorem dX1_look_131 : decode cX1_look 131 = .ok (.aload_n 0, 1) := by decide +kernel
theorem dX1_look_132 : decode cX1_look 132 = .ok (.getfield 12, 3) := by decide +kernel
theorem dX1_look_135 : decode cX1_look 135 = .ok (.getfield 70, 3) := by decide +kernel
theorem dX1_look_138 : decode cX1_look 138 = .ok (.aload_n 0, 1) := by decide +kernel
theorem dX1_look_139 : decode cX1_look 139 = .ok (.getfield 66, 3) := by decide +kernel
theorem dX1_look_142 : decode cX1_look 142 = .ok (.iastore, 1) := by decide +kernel
theorem dX1_look_143 : decode cX1_look 143 = .ok (.aload_n 0, 1) := by decide +kernel
theorem dX1_look_144 : decode cX1_look 144 = .ok (.aload_n 2, 1) := by decide +kernel
theorem dX1_look_145 : decode cX1_look 145 = .ok (.invokevirtual 88, 3) := by decide +kernel
theorem dX1_look_148 : decode cX1_look 148 = .ok (.aload_n 0, 1) := by decide +kernel
theorem dX1_look_149 : decode cX1_look 149 = .ok (.iconst 1, 1) := by decide +kernel
theorem dX1_look_150 : decode cX1_look 150 = .ok (.iconst 0, 1) := by decide +kernel
theorem dX1_look_151 : decode cX1_look 151 = .ok (.invokevirtual 92, 3) := by decide +kernel
theorem dX1_look_154 : decode cX1_look 154 = .ok (.aload_n 0, 1) := by decide +kernel
theorem dX1_look_155 : decode cX1_look 155 = .ok (.iconst 1, 1) := by decide +kernel
theorem dX1_look_156 : decode cX1_look 156 = .ok (.iconst 0, 1) := by decide +kernel
theorem dX1_look_157 : decode cX1_look 157 = .ok (.invokevirtual 96, 3) := by decide +kernel
theorem dX1_look_160 : decode cX1_look 160 = .ok (.aload_n 0, 1) := by decide +kernel
theorem dX1_look_161 : decode cX1_look 161 = .ok (.getfield 99, 3) := by decide +kernel
theorem dX1_look_164 : decode cX1_look 164 = .ok (.aload_n 2, 1) := by decide +kernel
theorem dX1_look_165 : decode cX1_look 165 = .ok (.getfield 102, 3) := by decide +kernel
theorem dX1_look_168 : decode cX1_look 168 = .ok (.if_icmp .le 21, 3) := by decide +kernel
theorem dX1_look_171 : decode cX1_look 171 = .ok (.aload_n 0, 1) := by decide +kernel
theorem dX1_look_172 : decode cX1_look 172 = .ok (.aload_n 2, 1) := by decide +kernel
theorem dX1_look_173 : decode cX1_look 173 = .ok (.getfield 102, 3) := by decide +kernel
theorem dX1_look_176 : decode cX1_look 176 = .ok (.iconst 1, 1) := by decide +kernel
theorem dX1_look_177 : decode cX1_look 177 = .ok (.invokevirtual 92, 3) := by decide +kernel
theorem dX1_look_180 : decode cX1_look 180 = .ok (.aload_n 0, 1) := by decide +kernel
theorem dX1_look_181 : decode cX1_look 181 = .ok (.aload_n 2, 1) := by decide +kernel
theorem dX1_look_182 : decode cX1_look 182 = .ok (.getfield 102, 3) := by decide +kernel
theorem dX1_look_185 : decode cX1_look 185 = .ok (.iconst 1, 1) := by decide +kernel
theorem dX1_look_186 : decode cX1_look 186 = .ok (.invokevirtual 96, 3) := by decide +kernel
theorem dX1_look_189 : decode cX1_look 189 = .ok (.return_, 1) := by decide +kernel
theorem dX1_fitsFrom_0 : decode cX1_fitsFrom 0 = .ok (.iload_n 1, 1) := by decide +kernel
theorem dX1_fitsFrom_1 : decode cX1_fitsFrom 1 = .ok (.ifCond .lt 29, 3) := by decide +kernel
theorem dX1_fitsFrom_4 : decode cX1_fitsFrom 4 = .ok (.iload_n 1, 1) := by decide +kernel
theorem dX1_fitsFrom_5 : decode cX1_fitsFrom 5 = .ok (.aload_n 0, 1) := by decide +kernel
theorem dX1_fitsFrom_6 : decode cX1_fitsFrom 6 = .ok (.getfield 61, 3) := by decide +kernel
theorem dX1_fitsFrom_9 : decode cX1_fitsFrom 9 = .ok (.getfield 71, 3) := by decide +kernel
theorem dX1_fitsFrom_12 : decode cX1_fitsFrom 12 = .ok (.if_icmp .ge 18, 3) := by decide +kernel
theorem dX1_fitsFrom_15 : decode cX1_fitsFrom 15 = .ok (.iload_n 2, 1) := by decide +kernel
theorem dX1_fitsFrom_16 : decode cX1_fitsFrom 16 = .ok (.ifCond .lt 14, 3) := by decide +kernel
theorem dX1_fitsFrom_19 : decode cX1_fitsFrom 19 = .ok (.iload_n 2, 1) := by decide +kernel
theorem dX1_fitsFrom_20 : decode cX1_fitsFrom 20 = .ok (.aload_n 0, 1) := by decide +kernel
theorem dX1_fitsFrom_21 : decode cX1_fitsFrom 21 = .ok (.getfield 12, 3) := by decide +kernel
theorem dX1_fitsFrom_24 : decode cX1_fitsFrom 24 = .ok (.getfield 70, 3) := by decide +kernel
theorem dX1_fitsFrom_27 : decode cX1_fitsFrom 27 = .ok (.if_icmp .lt 5, 3) := by decide +kernel
theorem dX1_fitsFrom_30 : decode cX1_fitsFrom 30 = .ok (.iconst 0, 1) := by decide +kernel
theorem dX1_fitsFrom_31 : decode cX1_fitsFrom 31 = .ok (.ireturn, 1) := by decide +kernel
theorem dX1_fitsFrom_32 : decode cX1_fitsFrom 32 = .ok (.aload_n 0, 1) := by decide +kernel
theorem dX1_fitsFrom_33 : decode cX1_fitsFrom 33 = .ok (.getfield 61, 3) := by decide +kernel
theorem dX1_fitsFrom_36 : decode cX1_fitsFrom 36 = .ok (.getfield 105, 3) := by decide +kernel
theorem dX1_fitsFrom_39 : decode cX1_fitsFrom 39 = .ok (.iload_n 1, 1) := by decide +kernel
theorem dX1_fitsFrom_40 : decode cX1_fitsFrom 40 = .ok (.iaload, 1) := by decide +kernel
theorem dX1_fitsFrom_41 : decode cX1_fitsFrom 41 = .ok (.istore_n 3, 1) := by decide +kernel
theorem dX1_fitsFrom_42 : decode cX1_fitsFrom 42 = .ok (.iload_n 2, 1) := by decide +kernel
theorem dX1_fitsFrom_43 : decode cX1_fitsFrom 43 = .ok (.iload_n 3, 1) := by decide +kernel
theorem dX1_fitsFrom_44 : decode cX1_fitsFrom 44 = .ok (.iadd, 1) := by decide +kernel
theorem dX1_fitsFrom_45 : decode cX1_fitsFrom 45 = .ok (.aload_n 0, 1) := by decide +kernel
theorem dX1_fitsFrom_46 : decode cX1_fitsFrom 46 = .ok (.getfield 12, 3) := by decide +kernel
theorem dX1_fitsFrom_49 : decode cX1_fitsFrom 49 = .ok (.getfield 70, 3) := by decide +kernel
theorem dX1_fitsFrom_52 : decode cX1_fitsFrom 52 = .ok (.if_icmp .le 5, 3) := by decide +kernel
theorem dX1_fitsFrom_55 : decode cX1_fitsFrom 55 = .ok (.iconst 0, 1) := by decide +kernel
theorem dX1_fitsFrom_56 : decode cX1_fitsFrom 56 = .ok (.ireturn, 1) := by decide +kernel
theorem dX1_fitsFrom_57 : decode cX1_fitsFrom 57 = .ok (.iconst 0, 1) := by decide +kernel
theorem dX1_fitsFrom_58 : decode cX1_fitsFrom 58 = .ok (.istore 4, 2) := by decide +kernel
theorem dX1_fitsFrom_60 : decode cX1_fitsFrom 60 = .ok (.iload 4, 2) := by decide +kernel
theorem dX1_fitsFrom_62 : decode cX1_fitsFrom 62 = .ok (.iload_n 3, 1) := by decide +kernel
theorem dX1_fitsFrom_63 : decode cX1_fitsFrom 63 = .ok (.if_icmp .ge 28, 3) := by decide +kernel
theorem dX1_fitsFrom_66 : decode cX1_fitsFrom 66 = .ok (.aload_n 0, 1) := by decide +kernel
theorem dX1_fitsFrom_67 : decode cX1_fitsFrom 67 = .ok (.iload_n 1, 1) := by decide +kernel
theorem dX1_fitsFrom_68 : decode cX1_fitsFrom 68 = .ok (.bipush 6, 2) := by decide +kernel
theorem dX1_fitsFrom_70 : decode cX1_fitsFrom 70 = .ok (.imul, 1) := by decide +kernel
theorem dX1_fitsFrom_71 : decode cX1_fitsFrom 71 = .ok (.iload 4, 2) := by decide +kernel
theorem dX1_fitsFrom_73 : decode cX1_fitsFrom 73 = .ok (.iadd, 1) := by decide +kernel
theorem dX1_fitsFrom_74 : decode cX1_fitsFrom 74 = .ok (.iload_n 2, 1) := by decide +kernel
theorem dX1_fitsFrom_75 : decode cX1_fitsFrom 75 = .ok (.iload 4, 2) := by decide +kernel
theorem dX1_fitsFrom_77 : decode cX1_fitsFrom 77 = .ok (.invokevirtual 108, 3) := by decide +kernel
theorem dX1_fitsFrom_80 : decode cX1_fitsFrom 80 = .ok (.ifCond .ne 5, 3) := by decide +kernel
theorem dX1_fitsFrom_83 : decode cX1_fitsFrom 83 = .ok (.iconst 0, 1) := by decide +kernel
theorem dX1_fitsFrom_84 : decode cX1_fitsFrom 84 = .ok (.ireturn, 1) := by decide +kernel
theorem dX1_fitsFrom_85 : decode cX1_fitsFrom 85 = .ok (.iinc 4 1, 3) := by decide +kernel
theorem dX1_fitsFrom_88 : decode cX1_fitsFrom 88 = .ok (.goto (-28), 3) := by decide +kernel
theorem dX1_fitsFrom_91 : decode cX1_fitsFrom 91 = .ok (.iconst 1, 1) := by decide +kernel
theorem dX1_fitsFrom_92 : decode cX1_fitsFrom 92 = .ok (.ireturn, 1) := by decide +kernel
theorem dX1_fitsElement_0 : decode cX1_fitsElement 0 = .ok (.aload_n 0, 1) := by decide +kernel
theorem dX1_fitsElement_1 : decode cX1_fitsElement 1 = .ok (.getfield 61, 3) := by decide +kernel
theorem dX1_fitsElement_4 : decode cX1_fitsElement 4 = .ok (.getfield 112, 3) := by decide +kernel
theorem dX1_fitsElement_7 : decode cX1_fitsElement 7 = .ok (.iload_n 1, 1) := by decide +kernel
theorem dX1_fitsElement_8 : decode cX1_fitsElement 8 = .ok (.iaload, 1) := by decide +kernel
theorem dX1_fitsElement_9 : decode cX1_fitsElement 9 = .ok (.istore 4, 2) := by decide +kernel
theorem dX1_fitsElement_11 : decode cX1_fitsElement 11 = .ok (.aload_n 0, 1) := by decide +kernel
theorem dX1_fitsElement_12 : decode cX1_fitsElement 12 = .ok (.getfield 61, 3) := by decide +kernel
theorem dX1_fitsElement_15 : decode cX1_fitsElement 15 = .ok (.getfield 115, 3) := by decide +kernel
theorem dX1_fitsElement_18 : decode cX1_fitsElement 18 = .ok (.iload_n 1, 1) := by decide +kernel
theorem dX1_fitsElement_19 : decode cX1_fitsElement 19 = .ok (.iaload, 1) := by decide +kernel
theorem dX1_fitsElement_20 : decode cX1_fitsElement 20 = .ok (.istore 5, 2) := by decide +kernel
theorem dX1_fitsElement_22 : decode cX1_fitsElement 22 = .ok (.iload 4, 2) := by decide +kernel
theorem dX1_fitsElement_24 : decode cX1_fitsElement 24 = .ok (.iconst 4, 1) := by decide +kernel
theorem dX1_fitsElement_25 : decode cX1_fitsElement 25 = .ok (.if_icmp .ne 29, 3) := by decide +kernel
theorem dX1_fitsElement_28 : decode cX1_fitsElement 28 = .ok (.aload_n 0, 1) := by decide +kernel
theorem dX1_fitsElement_29 : decode cX1_fitsElement 29 = .ok (.iload_n 2, 1) := by decide +kernel
theorem dX1_fitsElement_30 : decode cX1_fitsElement 30 = .ok (.iload_n 3, 1) := by decide +kernel
theorem dX1_fitsElement_31 : decode cX1_fitsElement 31 = .ok (.iadd, 1) := by decide +kernel
theorem dX1_fitsElement_32 : decode cX1_fitsElement 32 = .ok (.aload_n 0, 1) := by decide +kernel
theorem dX1_fitsElement_33 : decode cX1_fitsElement 33 = .ok (.getfield 61, 3) := by decide +kernel
theorem dX1_fitsElement_36 : decode cX1_fitsElement 36 = .ok (.getfield 118, 3) := by decide +kernel
theorem dX1_fitsElement_39 : decode cX1_fitsElement 39 = .ok (.iload 5, 2) := by decide +kernel
theorem dX1_fitsElement_41 : decode cX1_fitsElement 41 = .ok (.aload_n 0, 1) := by decide +kernel
theorem dX1_fitsElement_42 : decode cX1_fitsElement 42 = .ok (.getfield 61, 3) := by decide +kernel
theorem dX1_fitsElement_45 : decode cX1_fitsElement 45 = .ok (.getfield 121, 3) := by decide +kernel
theorem dX1_fitsElement_48 : decode cX1_fitsElement 48 = .ok (.iload_n 1, 1) := by decide +kernel
theorem dX1_fitsElement_49 : decode cX1_fitsElement 49 = .ok (.iaload, 1) := by decide +kernel
theorem dX1_fitsElement_50 : decode cX1_fitsElement 50 = .ok (.invokevirtual 124, 3) := by decide +kernel
theorem dX1_fitsElement_53 : decode cX1_fitsElement 53 = .ok (.ireturn, 1) := by decide +kernel
theorem dX1_fitsElement_54 : decode cX1_fitsElement 54 = .ok (.iload 4, 2) := by decide +kernel
theorem dX1_fitsElement_56 : decode cX1_fitsElement 56 = .ok (.aload_n 0, 1) := by decide +kernel
theorem dX1_fitsElement_57 : decode cX1_fitsElement 57 = .ok (.getfield 12, 3) := by decide +kernel
theorem dX1_fitsElement_60 : decode cX1_fitsElement 60 = .ok (.getfield 128, 3) := by decide +kernel
theorem dX1_fitsElement_63 : decode cX1_fitsElement 63 = .ok (.iload_n 2, 1) := by decide +kernel
theorem dX1_fitsElement_64 : decode cX1_fitsElement 64 = .ok (.iload_n 3, 1) := by decide +kernel
theorem dX1_fitsElement_65 : decode cX1_fitsElement 65 = .ok (.iadd, 1) := by decide +kernel
theorem dX1_fitsElement_66 : decode cX1_fitsElement 66 = .ok (.iaload, 1) := by decide +kernel
theorem dX1_fitsElement_67 : decode cX1_fitsElement 67 = .ok (.if_icmp .ne 56, 3) := by decide +kernel
theorem dX1_fitsElement_70 : decode cX1_fitsElement 70 = .ok (.iload 5, 2) := by decide +kernel
theorem dX1_fitsElement_72 : decode cX1_fitsElement 72 = .ok (.iload_n 3, 1) := by decide +kernel
theorem dX1_fitsElement_73 : decode cX1_fitsElement 73 = .ok (.if_icmp .eq 46, 3) := by decide +kernel
theorem dX1_fitsElement_76 : decode cX1_fitsElement 76 = .ok (.aload_n 0, 1) := by decide +kernel
theorem dX1_fitsElement_77 : decode cX1_fitsElement 77 = .ok (.iload_n 2, 1) := by decide +kernel
theorem dX1_fitsElement_78 : decode cX1_fitsElement 78 = .ok (.iload_n 3, 1) := by decide +kernel
theorem dX1_fitsElement_79 : decode cX1_fitsElement 79 = .ok (.iadd, 1) := by decide +kernel
theorem dX1_fitsElement_80 : decode cX1_fitsElement 80 = .ok (.aload_n 0, 1) := by decide +kernel
theorem dX1_fitsElement_81 : decode cX1_fitsElement 81 = .ok (.getfield 56, 3) := by decide +kernel
theorem dX1_fitsElement_84 : decode cX1_fitsElement 84 = .ok (.getfield 131, 3) := by decide +kernel
theorem dX1_fitsElement_87 : decode cX1_fitsElement 87 = .ok (.aload_n 0, 1) := by decide +kernel
theorem dX1_fitsElement_88 : decode cX1_fitsElement 88 = .ok (.getfield 12, 3) := by decide +kernel
theorem dX1_fitsElement_91 : decode cX1_fitsElement 91 = .ok (.getfield 134, 3) := by decide +kernel
theorem dX1_fitsElement_94 : decode cX1_fitsElement 94 = .ok (.iload_n 2, 1) := by decide +kernel
theorem dX1_fitsElement_95 : decode cX1_fitsElement 95 = .ok (.iload 5, 2) := by decide +kernel
theorem dX1_fitsElement_97 : decode cX1_fitsElement 97 = .ok (.iadd, 1) := by decide +kernel
theorem dX1_fitsElement_98 : decode cX1_fitsElement 98 = .ok (.iaload, 1) := by decide +kernel
theorem dX1_fitsElement_99 : decode cX1_fitsElement 99 = .ok (.aload_n 0, 1) := by decide +kernel
theorem dX1_fitsElement_100 : decode cX1_fitsElement 100 = .ok (.getfield 12, 3) := by decide +kernel
theorem dX1_fitsElement_103 : decode cX1_fitsElement 103 = .ok (.getfield 134, 3) := by decide +kernel
theorem dX1_fitsElement_106 : decode cX1_fitsElement 106 = .ok (.iload_n 2, 1) := by decide +kernel
theorem dX1_fitsElement_107 : decode cX1_fitsElement 107 = .ok (.iload 5, 2) := by decide +kernel
theorem dX1_fitsElement_109 : decode cX1_fitsElement 109 = .ok (.iadd, 1) := by decide +kernel
theorem dX1_fitsElement_110 : decode cX1_fitsElement 110 = .ok (.iconst 1, 1) := by decide +kernel
theorem dX1_fitsElement_111 : decode cX1_fitsElement 111 = .ok (.iadd, 1) := by decide +kernel
theorem dX1_fitsElement_112 : decode cX1_fitsElement 112 = .ok (.iaload, 1) := by decide +kernel
theorem dX1_fitsElement_113 : decode cX1_fitsElement 113 = .ok (.invokevirtual 124, 3) := by decide +kernel
theorem dX1_fitsElement_116 : decode cX1_fitsElement 116 = .ok (.ifCond .eq 7, 3) := by decide +kernel
theorem dX1_fitsElement_119 : decode cX1_fitsElement 119 = .ok (.iconst 1, 1) := by decide +kernel
theorem dX1_fitsElement_120 : decode cX1_fitsElement 120 = .ok (.goto 4, 3) := by decide +kernel
theorem dX1_fitsElement_123 : decode cX1_fitsElement 123 = .ok (.iconst 0, 1) := by decide +kernel
theorem dX1_fitsElement_124 : decode cX1_fitsElement 124 = .ok (.ireturn, 1) := by decide +kernel
theorem dX1_hasBytes_0 : decode cX1_hasBytes 0 = .ok (.aload_n 0, 1) := by decide +kernel
theorem dX1_hasBytes_1 : decode cX1_hasBytes 1 = .ok (.getfield 12, 3) := by decide +kernel
theorem dX1_hasBytes_4 : decode cX1_hasBytes 4 = .ok (.getfield 134, 3) := by decide +kernel
theorem dX1_hasBytes_7 : decode cX1_hasBytes 7 = .ok (.iload_n 1, 1) := by decide +kernel
theorem dX1_hasBytes_8 : decode cX1_hasBytes 8 = .ok (.iaload, 1) := by decide +kernel
theorem dX1_hasBytes_9 : decode cX1_hasBytes 9 = .ok (.istore 5, 2) := by decide +kernel
theorem dX1_hasBytes_11 : decode cX1_hasBytes 11 = .ok (.aload_n 0, 1) := by decide +kernel
theorem dX1_hasBytes_12 : decode cX1_hasBytes 12 = .ok (.getfield 12, 3) := by decide +kernel
theorem dX1_hasBytes_15 : decode cX1_hasBytes 15 = .ok (.getfield 134, 3) := by decide +kernel
theorem dX1_hasBytes_18 : decode cX1_hasBytes 18 = .ok (.iload_n 1, 1) := by decide +kernel
theorem dX1_hasBytes_19 : decode cX1_hasBytes 19 = .ok (.iconst 1, 1) := by decide +kernel
theorem dX1_hasBytes_20 : decode cX1_hasBytes 20 = .ok (.iadd, 1) := by decide +kernel
theorem dX1_hasBytes_21 : decode cX1_hasBytes 21 = .ok (.iaload, 1) := by decide +kernel
theorem dX1_hasBytes_22 : decode cX1_hasBytes 22 = .ok (.iload 5, 2) := by decide +kernel
theorem dX1_hasBytes_24 : decode cX1_hasBytes 24 = .ok (.isub, 1) := by decide +kernel
theorem dX1_hasBytes_25 : decode cX1_hasBytes 25 = .ok (.iload 4, 2) := by decide +kernel
theorem dX1_hasBytes_27 : decode cX1_hasBytes 27 = .ok (.iload_n 3, 1) := by decide +kernel
theorem dX1_hasBytes_28 : decode cX1_hasBytes 28 = .ok (.isub, 1) := by decide +kernel
theorem dX1_hasBytes_29 : decode cX1_hasBytes 29 = .ok (.if_icmp .eq 5, 3) := by decide +kernel
theorem dX1_hasBytes_32 : decode cX1_hasBytes 32 = .ok (.iconst 0, 1) := by decide +kernel
theorem dX1_hasBytes_33 : decode cX1_hasBytes 33 = .ok (.ireturn, 1) := by decide +kernel
theorem dX1_hasBytes_34 : decode cX1_hasBytes 34 = .ok (.iload_n 3, 1) := by decide +kernel
theorem dX1_hasBytes_35 : decode cX1_hasBytes 35 = .ok (.istore 6, 2) := by decide +kernel
theorem dX1_hasBytes_37 : decode cX1_hasBytes 37 = .ok (.iload 6, 2) := by decide +kernel
theorem dX1_hasBytes_39 : decode cX1_hasBytes 39 = .ok (.iload 4, 2) := by decide +kernel
theorem dX1_hasBytes_41 : decode cX1_hasBytes 41 = .ok (.if_icmp .ge 33, 3) := by decide +kernel
theorem dX1_hasBytes_44 : decode cX1_hasBytes 44 = .ok (.aload_n 0, 1) := by decide +kernel
theorem dX1_hasBytes_45 : decode cX1_hasBytes 45 = .ok (.getfield 56, 3) := by decide +kernel
theorem dX1_hasBytes_48 : decode cX1_hasBytes 48 = .ok (.getfield 131, 3) := by decide +kernel
theorem dX1_hasBytes_51 : decode cX1_hasBytes 51 = .ok (.iload 5, 2) := by decide +kernel
theorem dX1_hasBytes_53 : decode cX1_hasBytes 53 = .ok (.iload 6, 2) := by decide +kernel
theorem dX1_hasBytes_55 : decode cX1_hasBytes 55 = .ok (.iadd, 1) := by decide +kernel
theorem dX1_hasBytes_56 : decode cX1_hasBytes 56 = .ok (.iload_n 3, 1) := by decide +kernel
theorem dX1_hasBytes_57 : decode cX1_hasBytes 57 = .ok (.isub, 1) := by decide +kernel
theorem dX1_hasBytes_58 : decode cX1_hasBytes 58 = .ok (.baload, 1) := by decide +kernel
theorem dX1_hasBytes_59 : decode cX1_hasBytes 59 = .ok (.aload_n 2, 1) := by decide +kernel
theorem dX1_hasBytes_60 : decode cX1_hasBytes 60 = .ok (.iload 6, 2) := by decide +kernel
theorem dX1_hasBytes_62 : decode cX1_hasBytes 62 = .ok (.baload, 1) := by decide +kernel
theorem dX1_hasBytes_63 : decode cX1_hasBytes 63 = .ok (.if_icmp .eq 5, 3) := by decide +kernel
theorem dX1_hasBytes_66 : decode cX1_hasBytes 66 = .ok (.iconst 0, 1) := by decide +kernel
theorem dX1_hasBytes_67 : decode cX1_hasBytes 67 = .ok (.ireturn, 1) := by decide +kernel
theorem dX1_hasBytes_68 : decode cX1_hasBytes 68 = .ok (.iinc 6 1, 3) := by decide +kernel
theorem dX1_hasBytes_71 : decode cX1_hasBytes 71 = .ok (.goto (-34), 3) := by decide +kernel
theorem dX1_hasBytes_74 : decode cX1_hasBytes 74 = .ok (.iconst 1, 1) := by decide +kernel
theorem dX1_hasBytes_75 : decode cX1_hasBytes 75 = .ok (.ireturn, 1) := by decide +kernel
theorem dX1_consider_0 : decode cX1_consider 0 = .ok (.iload_n 2, 1) := by decide +kernel
theorem dX1_consider_1 : decode cX1_consider 1 = .ok (.aload_n 0, 1) := by decide +kernel
theorem dX1_consider_2 : decode cX1_consider 2 = .ok (.getfield 61, 3) := by decide +kernel
theorem dX1_consider_5 : decode cX1_consider 5 = .ok (.getfield 105, 3) := by decide +kernel
theorem dX1_consider_8 : decode cX1_consider 8 = .ok (.iload_n 1, 1) := by decide +kernel
theorem dX1_consider_9 : decode cX1_consider 9 = .ok (.iaload, 1) := by decide +kernel
theorem dX1_consider_10 : decode cX1_consider 10 = .ok (.iadd, 1) := by decide +kernel
theorem dX1_consider_11 : decode cX1_consider 11 = .ok (.istore 4, 2) := by decide +kernel
theorem dX1_consider_13 : decode cX1_consider 13 = .ok (.aload_n 0, 1) := by decide +kernel
theorem dX1_consider_14 : decode cX1_consider 14 = .ok (.getfield 12, 3) := by decide +kernel
theorem dX1_consider_17 : decode cX1_consider 17 = .ok (.getfield 134, 3) := by decide +kernel
theorem dX1_consider_20 : decode cX1_consider 20 = .ok (.iload_n 2, 1) := by decide +kernel
theorem dX1_consider_21 : decode cX1_consider 21 = .ok (.iaload, 1) := by decide +kernel
theorem dX1_consider_22 : decode cX1_consider 22 = .ok (.istore 5, 2) := by decide +kernel
theorem dX1_consider_24 : decode cX1_consider 24 = .ok (.aload_n 0, 1) := by decide +kernel
theorem dX1_consider_25 : decode cX1_consider 25 = .ok (.getfield 12, 3) := by decide +kernel
theorem dX1_consider_28 : decode cX1_consider 28 = .ok (.getfield 134, 3) := by decide +kernel
theorem dX1_consider_31 : decode cX1_consider 31 = .ok (.iload 4, 2) := by decide +kernel
theorem dX1_consider_33 : decode cX1_consider 33 = .ok (.iaload, 1) := by decide +kernel
theorem dX1_consider_34 : decode cX1_consider 34 = .ok (.istore 6, 2) := by decide +kernel
theorem dX1_consider_36 : decode cX1_consider 36 = .ok (.aload_n 0, 1) := by decide +kernel
theorem dX1_consider_37 : decode cX1_consider 37 = .ok (.iload_n 1, 1) := by decide +kernel
theorem dX1_consider_38 : decode cX1_consider 38 = .ok (.iload_n 2, 1) := by decide +kernel
theorem dX1_consider_39 : decode cX1_consider 39 = .ok (.invokevirtual 137, 3) := by decide +kernel
theorem dX1_consider_42 : decode cX1_consider 42 = .ok (.aload_n 0, 1) := by decide +kernel
theorem dX1_consider_43 : decode cX1_consider 43 = .ok (.iload 5, 2) := by decide +kernel
theorem dX1_consider_45 : decode cX1_consider 45 = .ok (.iload 6, 2) := by decide +kernel
theorem dX1_consider_47 : decode cX1_consider 47 = .ok (.invokevirtual 140, 3) := by decide +kernel
theorem dX1_consider_50 : decode cX1_consider 50 = .ok (.ifCond .ne 13, 3) := by decide +kernel
theorem dX1_consider_53 : decode cX1_consider 53 = .ok (.aload_n 0, 1) := by decide +kernel
theorem dX1_consider_54 : decode cX1_consider 54 = .ok (.getfield 66, 3) := by decide +kernel
theorem dX1_consider_57 : decode cX1_consider 57 = .ok (.sipush 1200, 3) := by decide +kernel
theorem dX1_consider_60 : decode cX1_consider 60 = .ok (.if_icmp .lt 4, 3) := by decide +kernel
theorem dX1_consider_63 : decode cX1_consider 63 = .ok (.return_, 1) := by decide +kernel
theorem dX1_consider_64 : decode cX1_consider 64 = .ok (.aload_n 0, 1) := by decide +kernel
theorem dX1_consider_65 : decode cX1_consider 65 = .ok (.getfield 22, 3) := by decide +kernel
theorem dX1_consider_68 : decode cX1_consider 68 = .ok (.aload_n 0, 1) := by decide +kernel
theorem dX1_consider_69 : decode cX1_consider 69 = .ok (.getfield 66, 3) := by decide +kernel
theorem dX1_consider_72 : decode cX1_consider 72 = .ok (.iload_n 1, 1) := by decide +kernel
theorem dX1_consider_73 : decode cX1_consider 73 = .ok (.iastore, 1) := by decide +kernel
theorem dX1_consider_74 : decode cX1_consider 74 = .ok (.aload_n 0, 1) := by decide +kernel
theorem dX1_consider_75 : decode cX1_consider 75 = .ok (.getfield 26, 3) := by decide +kernel
theorem dX1_consider_78 : decode cX1_consider 78 = .ok (.aload_n 0, 1) := by decide +kernel
theorem dX1_consider_79 : decode cX1_consider 79 = .ok (.getfield 66, 3) := by decide +kernel
theorem dX1_consider_82 : decode cX1_consider 82 = .ok (.iload_n 2, 1) := by decide +kernel
theorem dX1_consider_83 : decode cX1_consider 83 = .ok (.iastore, 1) := by decide +kernel
theorem dX1_consider_84 : decode cX1_consider 84 = .ok (.aload_n 0, 1) := by decide +kernel
theorem dX1_consider_85 : decode cX1_consider 85 = .ok (.getfield 29, 3) := by decide +kernel
theorem dX1_consider_88 : decode cX1_consider 88 = .ok (.aload_n 0, 1) := by decide +kernel
theorem dX1_consider_89 : decode cX1_consider 89 = .ok (.getfield 66, 3) := by decide +kernel
theorem dX1_consider_92 : decode cX1_consider 92 = .ok (.iload 4, 2) := by decide +kernel
theorem dX1_consider_94 : decode cX1_consider 94 = .ok (.iastore, 1) := by decide +kernel
theorem dX1_consider_95 : decode cX1_consider 95 = .ok (.aload_n 0, 1) := by decide +kernel
theorem dX1_consider_96 : decode cX1_consider 96 = .ok (.getfield 32, 3) := by decide +kernel
theorem dX1_consider_99 : decode cX1_consider 99 = .ok (.aload_n 0, 1) := by decide +kernel
theorem dX1_consider_100 : decode cX1_consider 100 = .ok (.getfield 66, 3) := by decide +kernel
theorem dX1_consider_103 : decode cX1_consider 103 = .ok (.aload_n 0, 1) := by decide +kernel
theorem dX1_consider_104 : decode cX1_consider 104 = .ok (.getfield 143, 3) := by decide +kernel
theorem dX1_consider_107 : decode cX1_consider 107 = .ok (.iastore, 1) := by decide +kernel
theorem dX1_consider_108 : decode cX1_consider 108 = .ok (.aload_n 0, 1) := by decide +kernel
theorem dX1_consider_109 : decode cX1_consider 109 = .ok (.getfield 35, 3) := by decide +kernel
theorem dX1_consider_112 : decode cX1_consider 112 = .ok (.aload_n 0, 1) := by decide +kernel
theorem dX1_consider_113 : decode cX1_consider 113 = .ok (.getfield 66, 3) := by decide +kernel
theorem dX1_consider_116 : decode cX1_consider 116 = .ok (.aload_n 0, 1) := by decide +kernel
theorem dX1_consider_117 : decode cX1_consider 117 = .ok (.getfield 61, 3) := by decide +kernel
theorem dX1_consider_120 : decode cX1_consider 120 = .ok (.getfield 146, 3) := by decide +kernel
theorem dX1_consider_123 : decode cX1_consider 123 = .ok (.iload_n 1, 1) := by decide +kernel
theorem dX1_consider_124 : decode cX1_consider 124 = .ok (.iaload, 1) := by decide +kernel
theorem dX1_consider_125 : decode cX1_consider 125 = .ok (.iload 6, 2) := by decide +kernel
theorem dX1_consider_127 : decode cX1_consider 127 = .ok (.iload 5, 2) := by decide +kernel
theorem dX1_consider_129 : decode cX1_consider 129 = .ok (.isub, 1) := by decide +kernel
theorem dX1_consider_130 : decode cX1_consider 130 = .ok (.iload_n 3, 1) := by decide +kernel
theorem dX1_consider_131 : decode cX1_consider 131 = .ok (.invokestatic 149, 3) := by decide +kernel
theorem dX1_consider_134 : decode cX1_consider 134 = .ok (.iastore, 1) := by decide +kernel
theorem dX1_consider_135 : decode cX1_consider 135 = .ok (.aload_n 0, 1) := by decide +kernel
theorem dX1_consider_136 : decode cX1_consider 136 = .ok (.getfield 38, 3) := by decide +kernel
theorem dX1_consider_139 : decode cX1_consider 139 = .ok (.aload_n 0, 1) := by decide +kernel
theorem dX1_consider_140 : decode cX1_consider 140 = .ok (.getfield 66, 3) := by decide +kernel
theorem dX1_consider_143 : decode cX1_consider 143 = .ok (.aload_n 0, 1) := by decide +kernel
theorem dX1_consider_144 : decode cX1_consider 144 = .ok (.getfield 56, 3) := by decide +kernel
theorem dX1_consider_147 : decode cX1_consider 147 = .ok (.iload 5, 2) := by decide +kernel
theorem dX1_consider_149 : decode cX1_consider 149 = .ok (.iload 6, 2) := by decide +kernel
theorem dX1_consider_151 : decode cX1_consider 151 = .ok (.invokevirtual 153, 3) := by decide +kernel
theorem dX1_consider_154 : decode cX1_consider 154 = .ok (.ifCond .eq 7, 3) := by decide +kernel
theorem dX1_consider_157 : decode cX1_consider 157 = .ok (.iconst 1, 1) := by decide +kernel
theorem dX1_consider_158 : decode cX1_consider 158 = .ok (.goto 4, 3) := by decide +kernel
theorem dX1_consider_161 : decode cX1_consider 161 = .ok (.iconst 0, 1) := by decide +kernel
theorem dX1_consider_162 : decode cX1_consider 162 = .ok (.iastore, 1) := by decide +kernel
theorem dX1_consider_163 : decode cX1_consider 163 = .ok (.aload_n 0, 1) := by decide +kernel
theorem dX1_consider_164 : decode cX1_consider 164 = .ok (.dup, 1) := by decide +kernel
theorem dX1_consider_165 : decode cX1_consider 165 = .ok (.getfield 66, 3) := by decide +kernel
theorem dX1_consider_168 : decode cX1_consider 168 = .ok (.iconst 1, 1) := by decide +kernel
theorem dX1_consider_169 : decode cX1_consider 169 = .ok (.iadd, 1) := by decide +kernel
theorem dX1_consider_170 : decode cX1_consider 170 = .ok (.putfield 66, 3) := by decide +kernel
theorem dX1_consider_173 : decode cX1_consider 173 = .ok (.return_, 1) := by decide +kernel
theorem dX1_valueOf_0 : decode cX1_valueOf 0 = .ok (.iload_n 2, 1) := by decide +kernel
theorem dX1_valueOf_1 : decode cX1_valueOf 1 = .ok (.ifCond .eq 8, 3) := by decide +kernel
theorem dX1_valueOf_4 : decode cX1_valueOf 4 = .ok (.iload_n 1, 1) := by decide +kernel
theorem dX1_valueOf_5 : decode cX1_valueOf 5 = .ok (.iconst 1, 1) := by decide +kernel
theorem dX1_valueOf_6 : decode cX1_valueOf 6 = .ok (.if_icmp .ge 5, 3) := by decide +kernel
theorem dX1_valueOf_9 : decode cX1_valueOf 9 = .ok (.iload_n 0, 1) := by decide +kernel
theorem dX1_valueOf_10 : decode cX1_valueOf 10 = .ok (.ireturn, 1) := by decide +kernel
theorem dX1_valueOf_11 : decode cX1_valueOf 11 = .ok (.iload_n 0, 1) := by decide +kernel
theorem dX1_valueOf_12 : decode cX1_valueOf 12 = .ok (.i2f, 1) := by decide +kernel
theorem dX1_valueOf_13 : decode cX1_valueOf 13 = .ok (.ldc 156, 2) := by decide +kernel
theorem dX1_valueOf_15 : decode cX1_valueOf 15 = .ok (.fmul, 1) := by decide +kernel
theorem dX1_valueOf_16 : decode cX1_valueOf 16 = .ok (.iload_n 1, 1) := by decide +kernel
theorem dX1_valueOf_17 : decode cX1_valueOf 17 = .ok (.i2f, 1) := by decide +kernel
theorem dX1_valueOf_18 : decode cX1_valueOf 18 = .ok (.fdiv, 1) := by decide +kernel
theorem dX1_valueOf_19 : decode cX1_valueOf 19 = .ok (.f2i, 1) := by decide +kernel
theorem dX1_valueOf_20 : decode cX1_valueOf 20 = .ok (.ireturn, 1) := by decide +kernel
theorem dX1_writeFresh_0 : decode cX1_writeFresh 0 = .ok (.aload_n 0, 1) := by decide +kernel
theorem dX1_writeFresh_1 : decode cX1_writeFresh 1 = .ok (.iconst 0, 1) := by decide +kernel
theorem dX1_writeFresh_2 : decode cX1_writeFresh 2 = .ok (.putfield 143, 3) := by decide +kernel
theorem dX1_writeFresh_5 : decode cX1_writeFresh 5 = .ok (.iconst 0, 1) := by decide +kernel
theorem dX1_writeFresh_6 : decode cX1_writeFresh 6 = .ok (.istore_n 3, 1) := by decide +kernel
theorem dX1_writeFresh_7 : decode cX1_writeFresh 7 = .ok (.iload_n 3, 1) := by decide +kernel
theorem dX1_writeFresh_8 : decode cX1_writeFresh 8 = .ok (.aload_n 0, 1) := by decide +kernel
theorem dX1_writeFresh_9 : decode cX1_writeFresh 9 = .ok (.getfield 61, 3) := by decide +kernel
theorem dX1_writeFresh_12 : decode cX1_writeFresh 12 = .ok (.getfield 157, 3) := by decide +kernel
theorem dX1_writeFresh_15 : decode cX1_writeFresh 15 = .ok (.iload_n 1, 1) := by decide +kernel
theorem dX1_writeFresh_16 : decode cX1_writeFresh 16 = .ok (.iaload, 1) := by decide +kernel
theorem dX1_writeFresh_17 : decode cX1_writeFresh 17 = .ok (.if_icmp .ge 176, 3) := by decide +kernel
theorem dX1_writeFresh_20 : decode cX1_writeFresh 20 = .ok (.aload_n 0, 1) := by decide +kernel
theorem dX1_writeFresh_21 : decode cX1_writeFresh 21 = .ok (.getfield 61, 3) := by decide +kernel
theorem dX1_writeFresh_24 : decode cX1_writeFresh 24 = .ok (.getfield 160, 3) := by decide +kernel
theorem dX1_writeFresh_27 : decode cX1_writeFresh 27 = .ok (.iload_n 1, 1) := by decide +kernel
theorem dX1_writeFresh_28 : decode cX1_writeFresh 28 = .ok (.bipush 6, 2) := by decide +kernel
theorem dX1_writeFresh_30 : decode cX1_writeFresh 30 = .ok (.imul, 1) := by decide +kernel
theorem dX1_writeFresh_31 : decode cX1_writeFresh 31 = .ok (.iload_n 3, 1) := by decide +kernel
theorem dX1_writeFresh_32 : decode cX1_writeFresh 32 = .ok (.iadd, 1) := by decide +kernel
theorem dX1_writeFresh_33 : decode cX1_writeFresh 33 = .ok (.iaload, 1) := by decide +kernel
theorem dX1_writeFresh_34 : decode cX1_writeFresh 34 = .ok (.istore 4, 2) := by decide +kernel
theorem dX1_writeFresh_36 : decode cX1_writeFresh 36 = .ok (.aload_n 0, 1) := by decide +kernel
theorem dX1_writeFresh_37 : decode cX1_writeFresh 37 = .ok (.getfield 61, 3) := by decide +kernel
theorem dX1_writeFresh_40 : decode cX1_writeFresh 40 = .ok (.getfield 163, 3) := by decide +kernel
theorem dX1_writeFresh_43 : decode cX1_writeFresh 43 = .ok (.iload_n 1, 1) := by decide +kernel
theorem dX1_writeFresh_44 : decode cX1_writeFresh 44 = .ok (.bipush 6, 2) := by decide +kernel
theorem dX1_writeFresh_46 : decode cX1_writeFresh 46 = .ok (.imul, 1) := by decide +kernel
theorem dX1_writeFresh_47 : decode cX1_writeFresh 47 = .ok (.iload_n 3, 1) := by decide +kernel
theorem dX1_writeFresh_48 : decode cX1_writeFresh 48 = .ok (.iadd, 1) := by decide +kernel
theorem dX1_writeFresh_49 : decode cX1_writeFresh 49 = .ok (.iaload, 1) := by decide +kernel
theorem dX1_writeFresh_50 : decode cX1_writeFresh 50 = .ok (.istore 5, 2) := by decide +kernel
theorem dX1_writeFresh_52 : decode cX1_writeFresh 52 = .ok (.iload 4, 2) := by decide +kernel
theorem dX1_writeFresh_54 : decode cX1_writeFresh 54 = .ok (.iconst 4, 1) := by decide +kernel
theorem dX1_writeFresh_55 : decode cX1_writeFresh 55 = .ok (.if_icmp .ne 33, 3) := by decide +kernel
theorem dX1_writeFresh_58 : decode cX1_writeFresh 58 = .ok (.aload_n 0, 1) := by decide +kernel
theorem dX1_writeFresh_59 : decode cX1_writeFresh 59 = .ok (.aload_n 0, 1) := by decide +kernel
theorem dX1_writeFresh_60 : decode cX1_writeFresh 60 = .ok (.getfield 61, 3) := by decide +kernel
theorem dX1_writeFresh_63 : decode cX1_writeFresh 63 = .ok (.getfield 118, 3) := by decide +kernel
theorem dX1_writeFresh_66 : decode cX1_writeFresh 66 = .ok (.iload 5, 2) := by decide +kernel
theorem dX1_writeFresh_68 : decode cX1_writeFresh 68 = .ok (.aload_n 0, 1) := by decide +kernel
theorem dX1_writeFresh_69 : decode cX1_writeFresh 69 = .ok (.getfield 61, 3) := by decide +kernel
theorem dX1_writeFresh_72 : decode cX1_writeFresh 72 = .ok (.getfield 166, 3) := by decide +kernel
theorem dX1_writeFresh_75 : decode cX1_writeFresh 75 = .ok (.iload_n 1, 1) := by decide +kernel
theorem dX1_writeFresh_76 : decode cX1_writeFresh 76 = .ok (.bipush 6, 2) := by decide +kernel
theorem dX1_writeFresh_78 : decode cX1_writeFresh 78 = .ok (.imul, 1) := by decide +kernel
theorem dX1_writeFresh_79 : decode cX1_writeFresh 79 = .ok (.iload_n 3, 1) := by decide +kernel
theorem dX1_writeFresh_80 : decode cX1_writeFresh 80 = .ok (.iadd, 1) := by decide +kernel
theorem dX1_writeFresh_81 : decode cX1_writeFresh 81 = .ok (.iaload, 1) := by decide +kernel
theorem dX1_writeFresh_82 : decode cX1_writeFresh 82 = .ok (.invokevirtual 169, 3) := by decide +kernel
theorem dX1_writeFresh_85 : decode cX1_writeFresh 85 = .ok (.goto 102, 3) := by decide +kernel
theorem dX1_writeFresh_88 : decode cX1_writeFresh 88 = .ok (.aload_n 0, 1) := by decide +kernel
theorem dX1_writeFresh_89 : decode cX1_writeFresh 89 = .ok (.getfield 12, 3) := by decide +kernel
theorem dX1_writeFresh_92 : decode cX1_writeFresh 92 = .ok (.getfield 134, 3) := by decide +kernel
theorem dX1_writeFresh_95 : decode cX1_writeFresh 95 = .ok (.iload_n 2, 1) := by decide +kernel
theorem dX1_writeFresh_96 : decode cX1_writeFresh 96 = .ok (.iload 5, 2) := by decide +kernel
theorem dX1_writeFresh_98 : decode cX1_writeFresh 98 = .ok (.iadd, 1) := by decide +kernel
theorem dX1_writeFresh_99 : decode cX1_writeFresh 99 = .ok (.iaload, 1) := by decide +kernel
theorem dX1_writeFresh_100 : decode cX1_writeFresh 100 = .ok (.istore 6, 2) := by decide +kernel
theorem dX1_writeFresh_102 : decode cX1_writeFresh 102 = .ok (.aload_n 0, 1) := by decide +kernel
theorem dX1_writeFresh_103 : decode cX1_writeFresh 103 = .ok (.getfield 12, 3) := by decide +kernel
theorem dX1_writeFresh_106 : decode cX1_writeFresh 106 = .ok (.getfield 134, 3) := by decide +kernel
theorem dX1_writeFresh_109 : decode cX1_writeFresh 109 = .ok (.iload_n 2, 1) := by decide +kernel
theorem dX1_writeFresh_110 : decode cX1_writeFresh 110 = .ok (.iload 5, 2) := by decide +kernel
theorem dX1_writeFresh_112 : decode cX1_writeFresh 112 = .ok (.iadd, 1) := by decide +kernel
theorem dX1_writeFresh_113 : decode cX1_writeFresh 113 = .ok (.iconst 1, 1) := by decide +kernel
theorem dX1_writeFresh_114 : decode cX1_writeFresh 114 = .ok (.iadd, 1) := by decide +kernel
theorem dX1_writeFresh_115 : decode cX1_writeFresh 115 = .ok (.iaload, 1) := by decide +kernel
theorem dX1_writeFresh_116 : decode cX1_writeFresh 116 = .ok (.istore 7, 2) := by decide +kernel
theorem dX1_writeFresh_118 : decode cX1_writeFresh 118 = .ok (.iload 4, 2) := by decide +kernel
theorem dX1_writeFresh_120 : decode cX1_writeFresh 120 = .ok (.iconst 3, 1) := by decide +kernel
theorem dX1_writeFresh_121 : decode cX1_writeFresh 121 = .ok (.if_icmp .ne 14, 3) := by decide +kernel
theorem dX1_writeFresh_124 : decode cX1_writeFresh 124 = .ok (.aload_n 0, 1) := by decide +kernel
theorem dX1_writeFresh_125 : decode cX1_writeFresh 125 = .ok (.iload 6, 2) := by decide +kernel
theorem dX1_writeFresh_127 : decode cX1_writeFresh 127 = .ok (.iload 7, 2) := by decide +kernel
theorem dX1_writeFresh_129 : decode cX1_writeFresh 129 = .ok (.invokevirtual 173, 3) := by decide +kernel
theorem dX1_writeFresh_132 : decode cX1_writeFresh 132 = .ok (.goto 55, 3) := by decide +kernel
theorem dX1_writeFresh_135 : decode cX1_writeFresh 135 = .ok (.iload 4, 2) := by decide +kernel
theorem dX1_writeFresh_137 : decode cX1_writeFresh 137 = .ok (.ifCond .eq 13, 3) := by decide +kernel
theorem dX1_writeFresh_140 : decode cX1_writeFresh 140 = .ok (.iload 7, 2) := by decide +kernel
theorem dX1_writeFresh_142 : decode cX1_writeFresh 142 = .ok (.iload 6, 2) := by decide +kernel
theorem dX1_writeFresh_144 : decode cX1_writeFresh 144 = .ok (.isub, 1) := by decide +kernel
theorem dX1_writeFresh_145 : decode cX1_writeFresh 145 = .ok (.bipush 9, 2) := by decide +kernel
theorem dX1_writeFresh_147 : decode cX1_writeFresh 147 = .ok (.if_icmp .le 21, 3) := by decide +kernel
theorem dX1_writeFresh_150 : decode cX1_writeFresh 150 = .ok (.aload_n 0, 1) := by decide +kernel
theorem dX1_writeFresh_151 : decode cX1_writeFresh 151 = .ok (.aload_n 0, 1) := by decide +kernel
theorem dX1_writeFresh_152 : decode cX1_writeFresh 152 = .ok (.getfield 56, 3) := by decide +kernel
theorem dX1_writeFresh_155 : decode cX1_writeFresh 155 = .ok (.getfield 131, 3) := by decide +kernel
theorem dX1_writeFresh_158 : decode cX1_writeFresh 158 = .ok (.iload 6, 2) := by decide +kernel
theorem dX1_writeFresh_160 : decode cX1_writeFresh 160 = .ok (.iload 7, 2) := by decide +kernel
theorem dX1_writeFresh_162 : decode cX1_writeFresh 162 = .ok (.invokevirtual 169, 3) := by decide +kernel
theorem dX1_writeFresh_165 : decode cX1_writeFresh 165 = .ok (.goto 22, 3) := by decide +kernel
theorem dX1_writeFresh_168 : decode cX1_writeFresh 168 = .ok (.aload_n 0, 1) := by decide +kernel
theorem dX1_writeFresh_169 : decode cX1_writeFresh 169 = .ok (.iload 6, 2) := by decide +kernel
theorem dX1_writeFresh_171 : decode cX1_writeFresh 171 = .ok (.iload 7, 2) := by decide +kernel
theorem dX1_writeFresh_173 : decode cX1_writeFresh 173 = .ok (.iload 4, 2) := by decide +kernel
theorem dX1_writeFresh_175 : decode cX1_writeFresh 175 = .ok (.iconst 1, 1) := by decide +kernel
theorem dX1_writeFresh_176 : decode cX1_writeFresh 176 = .ok (.if_icmp .ne 7, 3) := by decide +kernel
theorem dX1_writeFresh_179 : decode cX1_writeFresh 179 = .ok (.iconst 1, 1) := by decide +kernel
theorem dX1_writeFresh_180 : decode cX1_writeFresh 180 = .ok (.goto 4, 3) := by decide +kernel
theorem dX1_writeFresh_183 : decode cX1_writeFresh 183 = .ok (.iconst (-1), 1) := by decide +kernel
theorem dX1_writeFresh_184 : decode cX1_writeFresh 184 = .ok (.invokevirtual 176, 3) := by decide +kernel
theorem dX1_writeFresh_187 : decode cX1_writeFresh 187 = .ok (.iinc 3 1, 3) := by decide +kernel
theorem dX1_writeFresh_190 : decode cX1_writeFresh 190 = .ok (.goto (-183), 3) := by decide +kernel
theorem dX1_writeFresh_193 : decode cX1_writeFresh 193 = .ok (.return_, 1) := by decide +kernel
theorem dX1_writeBytes_0 : decode cX1_writeBytes 0 = .ok (.iload_n 2, 1) := by decide +kernel
theorem dX1_writeBytes_1 : decode cX1_writeBytes 1 = .ok (.istore 4, 2) := by decide +kernel
theorem dX1_writeBytes_3 : decode cX1_writeBytes 3 = .ok (.iload 4, 2) := by decide +kernel
theorem dX1_writeBytes_5 : decode cX1_writeBytes 5 = .ok (.iload_n 3, 1) := by decide +kernel
theorem dX1_writeBytes_6 : decode cX1_writeBytes 6 = .ok (.if_icmp .ge 42, 3) := by decide +kernel
theorem dX1_writeBytes_9 : decode cX1_writeBytes 9 = .ok (.aload_n 0, 1) := by decide +kernel
theorem dX1_writeBytes_10 : decode cX1_writeBytes 10 = .ok (.getfield 143, 3) := by decide +kernel
theorem dX1_writeBytes_13 : decode cX1_writeBytes 13 = .ok (.sipush 1500, 3) := by decide +kernel
theorem dX1_writeBytes_16 : decode cX1_writeBytes 16 = .ok (.if_icmp .ge 32, 3) := by decide +kernel
theorem dX1_writeBytes_19 : decode cX1_writeBytes 19 = .ok (.aload_n 0, 1) := by decide +kernel
theorem dX1_writeBytes_20 : decode cX1_writeBytes 20 = .ok (.getfield 18, 3) := by decide +kernel
theorem dX1_writeBytes_23 : decode cX1_writeBytes 23 = .ok (.aload_n 0, 1) := by decide +kernel
theorem dX1_writeBytes_24 : decode cX1_writeBytes 24 = .ok (.getfield 143, 3) := by decide +kernel
theorem dX1_writeBytes_27 : decode cX1_writeBytes 27 = .ok (.aload_n 1, 1) := by decide +kernel
theorem dX1_writeBytes_28 : decode cX1_writeBytes 28 = .ok (.iload 4, 2) := by decide +kernel
theorem dX1_writeBytes_30 : decode cX1_writeBytes 30 = .ok (.baload, 1) := by decide +kernel
theorem dX1_writeBytes_31 : decode cX1_writeBytes 31 = .ok (.bastore, 1) := by decide +kernel
theorem dX1_writeBytes_32 : decode cX1_writeBytes 32 = .ok (.aload_n 0, 1) := by decide +kernel
theorem dX1_writeBytes_33 : decode cX1_writeBytes 33 = .ok (.dup, 1) := by decide +kernel
theorem dX1_writeBytes_34 : decode cX1_writeBytes 34 = .ok (.getfield 143, 3) := by decide +kernel
theorem dX1_writeBytes_37 : decode cX1_writeBytes 37 = .ok (.iconst 1, 1) := by decide +kernel
theorem dX1_writeBytes_38 : decode cX1_writeBytes 38 = .ok (.iadd, 1) := by decide +kernel
theorem dX1_writeBytes_39 : decode cX1_writeBytes 39 = .ok (.putfield 143, 3) := by decide +kernel
theorem dX1_writeBytes_42 : decode cX1_writeBytes 42 = .ok (.iinc 4 1, 3) := by decide +kernel
theorem dX1_writeBytes_45 : decode cX1_writeBytes 45 = .ok (.goto (-42), 3) := by decide +kernel
theorem dX1_writeBytes_48 : decode cX1_writeBytes 48 = .ok (.return_, 1) := by decide +kernel
theorem dX1_writeTurned_0 : decode cX1_writeTurned 0 = .ok (.iload_n 2, 1) := by decide +kernel
theorem dX1_writeTurned_1 : decode cX1_writeTurned 1 = .ok (.iconst 1, 1) := by decide +kernel
theorem dX1_writeTurned_2 : decode cX1_writeTurned 2 = .ok (.isub, 1) := by decide +kernel
theorem dX1_writeTurned_3 : decode cX1_writeTurned 3 = .ok (.istore_n 3, 1) := by decide +kernel
theorem dX1_writeTurned_4 : decode cX1_writeTurned 4 = .ok (.iload_n 3, 1) := by decide +kernel
theorem dX1_writeTurned_5 : decode cX1_writeTurned 5 = .ok (.iload_n 1, 1) := by decide +kernel
theorem dX1_writeTurned_6 : decode cX1_writeTurned 6 = .ok (.if_icmp .lt 47, 3) := by decide +kernel
theorem dX1_writeTurned_9 : decode cX1_writeTurned 9 = .ok (.aload_n 0, 1) := by decide +kernel
theorem dX1_writeTurned_10 : decode cX1_writeTurned 10 = .ok (.getfield 143, 3) := by decide +kernel
theorem dX1_writeTurned_13 : decode cX1_writeTurned 13 = .ok (.sipush 1500, 3) := by decide +kernel
theorem dX1_writeTurned_16 : decode cX1_writeTurned 16 = .ok (.if_icmp .ge 37, 3) := by decide +kernel
theorem dX1_writeTurned_19 : decode cX1_writeTurned 19 = .ok (.aload_n 0, 1) := by decide +kernel
theorem dX1_writeTurned_20 : decode cX1_writeTurned 20 = .ok (.getfield 18, 3) := by decide +kernel
theorem dX1_writeTurned_23 : decode cX1_writeTurned 23 = .ok (.aload_n 0, 1) := by decide +kernel
theorem dX1_writeTurned_24 : decode cX1_writeTurned 24 = .ok (.getfield 143, 3) := by decide +kernel
theorem dX1_writeTurned_27 : decode cX1_writeTurned 27 = .ok (.aload_n 0, 1) := by decide +kernel
theorem dX1_writeTurned_28 : decode cX1_writeTurned 28 = .ok (.getfield 56, 3) := by decide +kernel
theorem dX1_writeTurned_31 : decode cX1_writeTurned 31 = .ok (.getfield 131, 3) := by decide +kernel
theorem dX1_writeTurned_34 : decode cX1_writeTurned 34 = .ok (.iload_n 3, 1) := by decide +kernel
theorem dX1_writeTurned_35 : decode cX1_writeTurned 35 = .ok (.baload, 1) := by decide +kernel
theorem dX1_writeTurned_36 : decode cX1_writeTurned 36 = .ok (.bastore, 1) := by decide +kernel
theorem dX1_writeTurned_37 : decode cX1_writeTurned 37 = .ok (.aload_n 0, 1) := by decide +kernel
theorem dX1_writeTurned_38 : decode cX1_writeTurned 38 = .ok (.dup, 1) := by decide +kernel
theorem dX1_writeTurned_39 : decode cX1_writeTurned 39 = .ok (.getfield 143, 3) := by decide +kernel
theorem dX1_writeTurned_42 : decode cX1_writeTurned 42 = .ok (.iconst 1, 1) := by decide +kernel
theorem dX1_writeTurned_43 : decode cX1_writeTurned 43 = .ok (.iadd, 1) := by decide +kernel
theorem dX1_writeTurned_44 : decode cX1_writeTurned 44 = .ok (.putfield 143, 3) := by decide +kernel
theorem dX1_writeTurned_47 : decode cX1_writeTurned 47 = .ok (.iinc 3 (-1), 3) := by decide +kernel
theorem dX1_writeTurned_50 : decode cX1_writeTurned 50 = .ok (.goto (-46), 3) := by decide +kernel
theorem dX1_writeTurned_53 : decode cX1_writeTurned 53 = .ok (.return_, 1) := by decide +kernel
theorem dX1_writeNumber_0 : decode cX1_writeNumber 0 = .ok (.iconst 0, 1) := by decide +kernel
theorem dX1_writeNumber_1 : decode cX1_writeNumber 1 = .ok (.istore 4, 2) := by decide +kernel
theorem dX1_writeNumber_3 : decode cX1_writeNumber 3 = .ok (.iload_n 1, 1) := by decide +kernel
theorem dX1_writeNumber_4 : decode cX1_writeNumber 4 = .ok (.istore 5, 2) := by decide +kernel
theorem dX1_writeNumber_6 : decode cX1_writeNumber 6 = .ok (.iload 5, 2) := by decide +kernel
theorem dX1_writeNumber_8 : decode cX1_writeNumber 8 = .ok (.iload_n 2, 1) := by decide +kernel
theorem dX1_writeNumber_9 : decode cX1_writeNumber 9 = .ok (.if_icmp .ge 30, 3) := by decide +kernel
theorem dX1_writeNumber_12 : decode cX1_writeNumber 12 = .ok (.iload 4, 2) := by decide +kernel
theorem dX1_writeNumber_14 : decode cX1_writeNumber 14 = .ok (.bipush 10, 2) := by decide +kernel
theorem dX1_writeNumber_16 : decode cX1_writeNumber 16 = .ok (.imul, 1) := by decide +kernel
theorem dX1_writeNumber_17 : decode cX1_writeNumber 17 = .ok (.aload_n 0, 1) := by decide +kernel
theorem dX1_writeNumber_18 : decode cX1_writeNumber 18 = .ok (.getfield 56, 3) := by decide +kernel
theorem dX1_writeNumber_21 : decode cX1_writeNumber 21 = .ok (.getfield 131, 3) := by decide +kernel
theorem dX1_writeNumber_24 : decode cX1_writeNumber 24 = .ok (.iload 5, 2) := by decide +kernel
theorem dX1_writeNumber_26 : decode cX1_writeNumber 26 = .ok (.baload, 1) := by decide +kernel
theorem dX1_writeNumber_27 : decode cX1_writeNumber 27 = .ok (.iadd, 1) := by decide +kernel
theorem dX1_writeNumber_28 : decode cX1_writeNumber 28 = .ok (.bipush 48, 2) := by decide +kernel
theorem dX1_writeNumber_30 : decode cX1_writeNumber 30 = .ok (.isub, 1) := by decide +kernel
theorem dX1_writeNumber_31 : decode cX1_writeNumber 31 = .ok (.istore 4, 2) := by decide +kernel
theorem dX1_writeNumber_33 : decode cX1_writeNumber 33 = .ok (.iinc 5 1, 3) := by decide +kernel
theorem dX1_writeNumber_36 : decode cX1_writeNumber 36 = .ok (.goto (-30), 3) := by decide +kernel
theorem dX1_writeNumber_39 : decode cX1_writeNumber 39 = .ok (.iconst 0, 1) := by decide +kernel
theorem dX1_writeNumber_40 : decode cX1_writeNumber 40 = .ok (.iload 4, 2) := by decide +kernel
theorem dX1_writeNumber_42 : decode cX1_writeNumber 42 = .ok (.iload_n 3, 1) := by decide +kernel
theorem dX1_writeNumber_43 : decode cX1_writeNumber 43 = .ok (.iadd, 1) := by decide +kernel
theorem dX1_writeNumber_44 : decode cX1_writeNumber 44 = .ok (.invokestatic 179, 3) := by decide +kernel
theorem dX1_writeNumber_47 : decode cX1_writeNumber 47 = .ok (.istore 4, 2) := by decide +kernel
theorem dX1_writeNumber_49 : decode cX1_writeNumber 49 = .ok (.iconst 1, 1) := by decide +kernel
theorem dX1_writeNumber_50 : decode cX1_writeNumber 50 = .ok (.istore 5, 2) := by decide +kernel
theorem dX1_writeNumber_52 : decode cX1_writeNumber 52 = .ok (.iload 5, 2) := by decide +kernel
theorem dX1_writeNumber_54 : decode cX1_writeNumber 54 = .ok (.ldc 185, 2) := by decide +kernel
theorem dX1_writeNumber_56 : decode cX1_writeNumber 56 = .ok (.if_icmp .ge 23, 3) := by decide +kernel
theorem dX1_writeNumber_59 : decode cX1_writeNumber 59 = .ok (.iload 4, 2) := by decide +kernel
theorem dX1_writeNumber_61 : decode cX1_writeNumber 61 = .ok (.iload 5, 2) := by decide +kernel
theorem dX1_writeNumber_63 : decode cX1_writeNumber 63 = .ok (.idiv, 1) := by decide +kernel
theorem dX1_writeNumber_64 : decode cX1_writeNumber 64 = .ok (.bipush 10, 2) := by decide +kernel
theorem dX1_writeNumber_66 : decode cX1_writeNumber 66 = .ok (.if_icmp .lt 13, 3) := by decide +kernel
theorem dX1_writeNumber_69 : decode cX1_writeNumber 69 = .ok (.iload 5, 2) := by decide +kernel
theorem dX1_writeNumber_71 : decode cX1_writeNumber 71 = .ok (.bipush 10, 2) := by decide +kernel
theorem dX1_writeNumber_73 : decode cX1_writeNumber 73 = .ok (.imul, 1) := by decide +kernel
theorem dX1_writeNumber_74 : decode cX1_writeNumber 74 = .ok (.istore 5, 2) := by decide +kernel
theorem dX1_writeNumber_76 : decode cX1_writeNumber 76 = .ok (.goto (-24), 3) := by decide +kernel
theorem dX1_writeNumber_79 : decode cX1_writeNumber 79 = .ok (.iload 5, 2) := by decide +kernel
theorem dX1_writeNumber_81 : decode cX1_writeNumber 81 = .ok (.istore 6, 2) := by decide +kernel
theorem dX1_writeNumber_83 : decode cX1_writeNumber 83 = .ok (.iload 6, 2) := by decide +kernel
theorem dX1_writeNumber_85 : decode cX1_writeNumber 85 = .ok (.ifCond .le 54, 3) := by decide +kernel
theorem dX1_writeNumber_88 : decode cX1_writeNumber 88 = .ok (.aload_n 0, 1) := by decide +kernel
theorem dX1_writeNumber_89 : decode cX1_writeNumber 89 = .ok (.getfield 143, 3) := by decide +kernel
theorem dX1_writeNumber_92 : decode cX1_writeNumber 92 = .ok (.sipush 1500, 3) := by decide +kernel
theorem dX1_writeNumber_95 : decode cX1_writeNumber 95 = .ok (.if_icmp .ge 44, 3) := by decide +kernel
theorem dX1_writeNumber_98 : decode cX1_writeNumber 98 = .ok (.aload_n 0, 1) := by decide +kernel
theorem dX1_writeNumber_99 : decode cX1_writeNumber 99 = .ok (.getfield 18, 3) := by decide +kernel
theorem dX1_writeNumber_102 : decode cX1_writeNumber 102 = .ok (.aload_n 0, 1) := by decide +kernel
theorem dX1_writeNumber_103 : decode cX1_writeNumber 103 = .ok (.getfield 143, 3) := by decide +kernel
theorem dX1_writeNumber_106 : decode cX1_writeNumber 106 = .ok (.bipush 48, 2) := by decide +kernel
theorem dX1_writeNumber_108 : decode cX1_writeNumber 108 = .ok (.iload 4, 2) := by decide +kernel
theorem dX1_writeNumber_110 : decode cX1_writeNumber 110 = .ok (.iload 6, 2) := by decide +kernel
theorem dX1_writeNumber_112 : decode cX1_writeNumber 112 = .ok (.idiv, 1) := by decide +kernel
theorem dX1_writeNumber_113 : decode cX1_writeNumber 113 = .ok (.bipush 10, 2) := by decide +kernel
theorem dX1_writeNumber_115 : decode cX1_writeNumber 115 = .ok (.irem, 1) := by decide +kernel
theorem dX1_writeNumber_116 : decode cX1_writeNumber 116 = .ok (.iadd, 1) := by decide +kernel
theorem dX1_writeNumber_117 : decode cX1_writeNumber 117 = .ok (.i2b, 1) := by decide +kernel
theorem dX1_writeNumber_118 : decode cX1_writeNumber 118 = .ok (.bastore, 1) := by decide +kernel
theorem dX1_writeNumber_119 : decode cX1_writeNumber 119 = .ok (.aload_n 0, 1) := by decide +kernel
theorem dX1_writeNumber_120 : decode cX1_writeNumber 120 = .ok (.dup, 1) := by decide +kernel
theorem dX1_writeNumber_121 : decode cX1_writeNumber 121 = .ok (.getfield 143, 3) := by decide +kernel
theorem dX1_writeNumber_124 : decode cX1_writeNumber 124 = .ok (.iconst 1, 1) := by decide +kernel
theorem dX1_writeNumber_125 : decode cX1_writeNumber 125 = .ok (.iadd, 1) := by decide +kernel
theorem dX1_writeNumber_126 : decode cX1_writeNumber 126 = .ok (.putfield 143, 3) := by decide +kernel
theorem dX1_writeNumber_129 : decode cX1_writeNumber 129 = .ok (.iload 6, 2) := by decide +kernel
theorem dX1_writeNumber_131 : decode cX1_writeNumber 131 = .ok (.bipush 10, 2) := by decide +kernel
theorem dX1_writeNumber_133 : decode cX1_writeNumber 133 = .ok (.idiv, 1) := by decide +kernel
theorem dX1_writeNumber_134 : decode cX1_writeNumber 134 = .ok (.istore 6, 2) := by decide +kernel
theorem dX1_writeNumber_136 : decode cX1_writeNumber 136 = .ok (.goto (-53), 3) := by decide +kernel
theorem dX1_writeNumber_139 : decode cX1_writeNumber 139 = .ok (.return_, 1) := by decide +kernel
theorem dX1_isFreshLike_0 : decode cX1_isFreshLike 0 = .ok (.aload_n 0, 1) := by decide +kernel
theorem dX1_isFreshLike_1 : decode cX1_isFreshLike 1 = .ok (.getfield 143, 3) := by decide +kernel
theorem dX1_isFreshLike_4 : decode cX1_isFreshLike 4 = .ok (.iload_n 2, 1) := by decide +kernel
theorem dX1_isFreshLike_5 : decode cX1_isFreshLike 5 = .ok (.iload_n 1, 1) := by decide +kernel
theorem dX1_isFreshLike_6 : decode cX1_isFreshLike 6 = .ok (.isub, 1) := by decide +kernel
theorem dX1_isFreshLike_7 : decode cX1_isFreshLike 7 = .ok (.if_icmp .eq 5, 3) := by decide +kernel
theorem dX1_isFreshLike_10 : decode cX1_isFreshLike 10 = .ok (.iconst 0, 1) := by decide +kernel
theorem dX1_isFreshLike_11 : decode cX1_isFreshLike 11 = .ok (.ireturn, 1) := by decide +kernel
theorem dX1_isFreshLike_12 : decode cX1_isFreshLike 12 = .ok (.iconst 0, 1) := by decide +kernel
theorem dX1_isFreshLike_13 : decode cX1_isFreshLike 13 = .ok (.istore_n 3, 1) := by decide +kernel
theorem dX1_isFreshLike_14 : decode cX1_isFreshLike 14 = .ok (.iload_n 3, 1) := by decide +kernel
theorem dX1_isFreshLike_15 : decode cX1_isFreshLike 15 = .ok (.aload_n 0, 1) := by decide +kernel
theorem dX1_isFreshLike_16 : decode cX1_isFreshLike 16 = .ok (.getfield 143, 3) := by decide +kernel
theorem dX1_isFreshLike_19 : decode cX1_isFreshLike 19 = .ok (.if_icmp .ge 31, 3) := by decide +kernel
theorem dX1_isFreshLike_22 : decode cX1_isFreshLike 22 = .ok (.aload_n 0, 1) := by decide +kernel
theorem dX1_isFreshLike_23 : decode cX1_isFreshLike 23 = .ok (.getfield 18, 3) := by decide +kernel
theorem dX1_isFreshLike_26 : decode cX1_isFreshLike 26 = .ok (.iload_n 3, 1) := by decide +kernel
theorem dX1_isFreshLike_27 : decode cX1_isFreshLike 27 = .ok (.baload, 1) := by decide +kernel
theorem dX1_isFreshLike_28 : decode cX1_isFreshLike 28 = .ok (.aload_n 0, 1) := by decide +kernel
theorem dX1_isFreshLike_29 : decode cX1_isFreshLike 29 = .ok (.getfield 56, 3) := by decide +kernel
theorem dX1_isFreshLike_32 : decode cX1_isFreshLike 32 = .ok (.getfield 131, 3) := by decide +kernel
theorem dX1_isFreshLike_35 : decode cX1_isFreshLike 35 = .ok (.iload_n 1, 1) := by decide +kernel
theorem dX1_isFreshLike_36 : decode cX1_isFreshLike 36 = .ok (.iload_n 3, 1) := by decide +kernel
theorem dX1_isFreshLike_37 : decode cX1_isFreshLike 37 = .ok (.iadd, 1) := by decide +kernel
theorem dX1_isFreshLike_38 : decode cX1_isFreshLike 38 = .ok (.baload, 1) := by decide +kernel
theorem dX1_isFreshLike_39 : decode cX1_isFreshLike 39 = .ok (.if_icmp .eq 5, 3) := by decide +kernel
theorem dX1_isFreshLike_42 : decode cX1_isFreshLike 42 = .ok (.iconst 0, 1) := by decide +kernel
theorem dX1_isFreshLike_43 : decode cX1_isFreshLike 43 = .ok (.ireturn, 1) := by decide +kernel
theorem dX1_isFreshLike_44 : decode cX1_isFreshLike 44 = .ok (.iinc 3 1, 3) := by decide +kernel
theorem dX1_isFreshLike_47 : decode cX1_isFreshLike 47 = .ok (.goto (-33), 3) := by decide +kernel
theorem dX1_isFreshLike_50 : decode cX1_isFreshLike 50 = .ok (.iconst 1, 1) := by decide +kernel
theorem dX1_isFreshLike_51 : decode cX1_isFreshLike 51 = .ok (.ireturn, 1) := by decide +kernel
theorem dX1_freshByte_0 : decode cX1_freshByte 0 = .ok (.aload_n 0, 1) := by decide +kernel
theorem dX1_freshByte_1 : decode cX1_freshByte 1 = .ok (.aload_n 0, 1) := by decide +kernel
theorem dX1_freshByte_2 : decode cX1_freshByte 2 = .ok (.getfield 22, 3) := by decide +kernel
theorem dX1_freshByte_5 : decode cX1_freshByte 5 = .ok (.iload_n 1, 1) := by decide +kernel
theorem dX1_freshByte_6 : decode cX1_freshByte 6 = .ok (.iaload, 1) := by decide +kernel
theorem dX1_freshByte_7 : decode cX1_freshByte 7 = .ok (.aload_n 0, 1) := by decide +kernel
theorem dX1_freshByte_8 : decode cX1_freshByte 8 = .ok (.getfield 26, 3) := by decide +kernel
theorem dX1_freshByte_11 : decode cX1_freshByte 11 = .ok (.iload_n 1, 1) := by decide +kernel
theorem dX1_freshByte_12 : decode cX1_freshByte 12 = .ok (.iaload, 1) := by decide +kernel
theorem dX1_freshByte_13 : decode cX1_freshByte 13 = .ok (.invokevirtual 137, 3) := by decide +kernel
theorem dX1_freshByte_16 : decode cX1_freshByte 16 = .ok (.iload_n 2, 1) := by decide +kernel
theorem dX1_freshByte_17 : decode cX1_freshByte 17 = .ok (.ifCond .lt 20, 3) := by decide +kernel
theorem dX1_freshByte_20 : decode cX1_freshByte 20 = .ok (.iload_n 2, 1) := by decide +kernel
theorem dX1_freshByte_21 : decode cX1_freshByte 21 = .ok (.aload_n 0, 1) := by decide +kernel
theorem dX1_freshByte_22 : decode cX1_freshByte 22 = .ok (.getfield 143, 3) := by decide +kernel
theorem dX1_freshByte_25 : decode cX1_freshByte 25 = .ok (.if_icmp .ge 12, 3) := by decide +kernel
theorem dX1_freshByte_28 : decode cX1_freshByte 28 = .ok (.aload_n 0, 1) := by decide +kernel
theorem dX1_freshByte_29 : decode cX1_freshByte 29 = .ok (.getfield 18, 3) := by decide +kernel
theorem dX1_freshByte_32 : decode cX1_freshByte 32 = .ok (.iload_n 2, 1) := by decide +kernel
theorem dX1_freshByte_33 : decode cX1_freshByte 33 = .ok (.baload, 1) := by decide +kernel
theorem dX1_freshByte_34 : decode cX1_freshByte 34 = .ok (.goto 4, 3) := by decide +kernel
theorem dX1_freshByte_37 : decode cX1_freshByte 37 = .ok (.iconst (-1), 1) := by decide +kernel
theorem dX1_freshByte_38 : decode cX1_freshByte 38 = .ok (.ireturn, 1) := by decide +kernel
theorem dX1_firstNear_0 : decode cX1_firstNear 0 = .ok (.aload_n 0, 1) := by decide +kernel
theorem dX1_firstNear_1 : decode cX1_firstNear 1 = .ok (.getfield 41, 3) := by decide +kernel
theorem dX1_firstNear_4 : decode cX1_firstNear 4 = .ok (.iconst 0, 1) := by decide +kernel
theorem dX1_firstNear_5 : decode cX1_firstNear 5 = .ok (.aload_n 0, 1) := by decide +kernel
theorem dX1_firstNear_6 : decode cX1_firstNear 6 = .ok (.getfield 26, 3) := by decide +kernel
theorem dX1_firstNear_9 : decode cX1_firstNear 9 = .ok (.iload_n 1, 1) := by decide +kernel
theorem dX1_firstNear_10 : decode cX1_firstNear 10 = .ok (.iaload, 1) := by decide +kernel
theorem dX1_firstNear_11 : decode cX1_firstNear 11 = .ok (.bipush 6, 2) := by decide +kernel
theorem dX1_firstNear_13 : decode cX1_firstNear 13 = .ok (.isub, 1) := by decide +kernel
theorem dX1_firstNear_14 : decode cX1_firstNear 14 = .ok (.iconst 1, 1) := by decide +kernel
theorem dX1_firstNear_15 : decode cX1_firstNear 15 = .ok (.iadd, 1) := by decide +kernel
theorem dX1_firstNear_16 : decode cX1_firstNear 16 = .ok (.invokestatic 179, 3) := by decide +kernel
theorem dX1_firstNear_19 : decode cX1_firstNear 19 = .ok (.iaload, 1) := by decide +kernel
theorem dX1_firstNear_20 : decode cX1_firstNear 20 = .ok (.ireturn, 1) := by decide +kernel
theorem dX1_isLoudAndShares_0 : decode cX1_isLoudAndShares 0 = .ok (.aload_n 0, 1) := by decide +kernel
theorem dX1_isLoudAndShares_1 : decode cX1_isLoudAndShares 1 = .ok (.getfield 38, 3) := by decide +kernel
theorem dX1_isLoudAndShares_4 : decode cX1_isLoudAndShares 4 = .ok (.iload_n 1, 1) := by decide +kernel
theorem dX1_isLoudAndShares_5 : decode cX1_isLoudAndShares 5 = .ok (.iaload, 1) := by decide +kernel
theorem dX1_isLoudAndShares_6 : decode cX1_isLoudAndShares 6 = .ok (.iconst 1, 1) := by decide +kernel
theorem dX1_isLoudAndShares_7 : decode cX1_isLoudAndShares 7 = .ok (.iand, 1) := by decide +kernel
theorem dX1_isLoudAndShares_8 : decode cX1_isLoudAndShares 8 = .ok (.ifCond .ne 22, 3) := by decide +kernel
theorem dX1_isLoudAndShares_11 : decode cX1_isLoudAndShares 11 = .ok (.aload_n 0, 1) := by decide +kernel
theorem dX1_isLoudAndShares_12 : decode cX1_isLoudAndShares 12 = .ok (.getfield 29, 3) := by decide +kernel
theorem dX1_isLoudAndShares_15 : decode cX1_isLoudAndShares 15 = .ok (.iload_n 1, 1) := by decide +kernel
theorem dX1_isLoudAndShares_16 : decode cX1_isLoudAndShares 16 = .ok (.iaload, 1) := by decide +kernel
theorem dX1_isLoudAndShares_17 : decode cX1_isLoudAndShares 17 = .ok (.aload_n 0, 1) := by decide +kernel
theorem dX1_isLoudAndShares_18 : decode cX1_isLoudAndShares 18 = .ok (.getfield 26, 3) := by decide +kernel
theorem dX1_isLoudAndShares_21 : decode cX1_isLoudAndShares 21 = .ok (.iload_n 2, 1) := by decide +kernel
theorem dX1_isLoudAndShares_22 : decode cX1_isLoudAndShares 22 = .ok (.iaload, 1) := by decide +kernel
theorem dX1_isLoudAndShares_23 : decode cX1_isLoudAndShares 23 = .ok (.if_icmp .le 7, 3) := by decide +kernel
theorem dX1_isLoudAndShares_26 : decode cX1_isLoudAndShares 26 = .ok (.iconst 1, 1) := by decide +kernel
theorem dX1_isLoudAndShares_27 : decode cX1_isLoudAndShares 27 = .ok (.goto 4, 3) := by decide +kernel
theorem dX1_isLoudAndShares_30 : decode cX1_isLoudAndShares 30 = .ok (.iconst 0, 1) := by decide +kernel
theorem dX1_isLoudAndShares_31 : decode cX1_isLoudAndShares 31 = .ok (.ireturn, 1) := by decide +kernel
theorem dX1_markYielded_0 : decode cX1_markYielded 0 = .ok (.iconst 0, 1) := by decide +kernel
theorem dX1_markYielded_1 : decode cX1_markYielded 1 = .ok (.istore_n 2, 1) := by decide +kernel
theorem dX1_markYielded_2 : decode cX1_markYielded 2 = .ok (.iload_n 2, 1) := by decide +kernel
theorem dX1_markYielded_3 : decode cX1_markYielded 3 = .ok (.aload_n 0, 1) := by decide +kernel
theorem dX1_markYielded_4 : decode cX1_markYielded 4 = .ok (.getfield 66, 3) := by decide +kernel
theorem dX1_markYielded_7 : decode cX1_markYielded 7 = .ok (.if_icmp .ge 45, 3) := by decide +kernel
theorem dX1_markYielded_10 : decode cX1_markYielded 10 = .ok (.aload_n 1, 1) := by decide +kernel
theorem dX1_markYielded_11 : decode cX1_markYielded 11 = .ok (.iconst 1, 1) := by decide +kernel
theorem dX1_markYielded_12 : decode cX1_markYielded 12 = .ok (.aload_n 0, 1) := by decide +kernel
theorem dX1_markYielded_13 : decode cX1_markYielded 13 = .ok (.getfield 22, 3) := by decide +kernel
theorem dX1_markYielded_16 : decode cX1_markYielded 16 = .ok (.iload_n 2, 1) := by decide +kernel
theorem dX1_markYielded_17 : decode cX1_markYielded 17 = .ok (.iaload, 1) := by decide +kernel
theorem dX1_markYielded_18 : decode cX1_markYielded 18 = .ok (.ishl, 1) := by decide +kernel
theorem dX1_markYielded_19 : decode cX1_markYielded 19 = .ok (.invokevirtual 186, 3) := by decide +kernel
theorem dX1_markYielded_22 : decode cX1_markYielded 22 = .ok (.istore_n 3, 1) := by decide +kernel
theorem dX1_markYielded_23 : decode cX1_markYielded 23 = .ok (.iload_n 3, 1) := by decide +kernel
theorem dX1_markYielded_24 : decode cX1_markYielded 24 = .ok (.ifCond .eq 22, 3) := by decide +kernel
theorem dX1_markYielded_27 : decode cX1_markYielded 27 = .ok (.aload_n 0, 1) := by decide +kernel
theorem dX1_markYielded_28 : decode cX1_markYielded 28 = .ok (.iload_n 2, 1) := by decide +kernel
theorem dX1_markYielded_29 : decode cX1_markYielded 29 = .ok (.iload_n 3, 1) := by decide +kernel
theorem dX1_markYielded_30 : decode cX1_markYielded 30 = .ok (.invokevirtual 190, 3) := by decide +kernel
theorem dX1_markYielded_33 : decode cX1_markYielded 33 = .ok (.ifCond .eq 13, 3) := by decide +kernel
theorem dX1_markYielded_36 : decode cX1_markYielded 36 = .ok (.aload_n 0, 1) := by decide +kernel
theorem dX1_markYielded_37 : decode cX1_markYielded 37 = .ok (.getfield 38, 3) := by decide +kernel
theorem dX1_markYielded_40 : decode cX1_markYielded 40 = .ok (.iload_n 2, 1) := by decide +kernel
theorem dX1_markYielded_41 : decode cX1_markYielded 41 = .ok (.dup2, 1) := by decide +kernel
theorem dX1_markYielded_42 : decode cX1_markYielded 42 = .ok (.iaload, 1) := by decide +kernel
theorem dX1_markYielded_43 : decode cX1_markYielded 43 = .ok (.iconst 2, 1) := by decide +kernel
theorem dX1_markYielded_44 : decode cX1_markYielded 44 = .ok (.ior, 1) := by decide +kernel
theorem dX1_markYielded_45 : decode cX1_markYielded 45 = .ok (.iastore, 1) := by decide +kernel
theorem dX1_markYielded_46 : decode cX1_markYielded 46 = .ok (.iinc 2 1, 3) := by decide +kernel
theorem dX1_markYielded_49 : decode cX1_markYielded 49 = .ok (.goto (-47), 3) := by decide +kernel
theorem dX1_markYielded_52 : decode cX1_markYielded 52 = .ok (.return_, 1) := by decide +kernel
theorem dX1_sharesWithOneOf_0 : decode cX1_sharesWithOneOf 0 = .ok (.aload_n 0, 1) := by decide +kernel
theorem dX1_sharesWithOneOf_1 : decode cX1_sharesWithOneOf 1 = .ok (.getfield 41, 3) := by decide +kernel
theorem dX1_sharesWithOneOf_4 : decode cX1_sharesWithOneOf 4 = .ok (.aload_n 0, 1) := by decide +kernel
theorem dX1_sharesWithOneOf_5 : decode cX1_sharesWithOneOf 5 = .ok (.getfield 29, 3) := by decide +kernel
theorem dX1_sharesWithOneOf_8 : decode cX1_sharesWithOneOf 8 = .ok (.iload_n 1, 1) := by decide +kernel
theorem dX1_sharesWithOneOf_9 : decode cX1_sharesWithOneOf 9 = .ok (.iaload, 1) := by decide +kernel
theorem dX1_sharesWithOneOf_10 : decode cX1_sharesWithOneOf 10 = .ok (.iaload, 1) := by decide +kernel
theorem dX1_sharesWithOneOf_11 : decode cX1_sharesWithOneOf 11 = .ok (.istore_n 3, 1) := by decide +kernel
theorem dX1_sharesWithOneOf_12 : decode cX1_sharesWithOneOf 12 = .ok (.aload_n 0, 1) := by decide +kernel
theorem dX1_sharesWithOneOf_13 : decode cX1_sharesWithOneOf 13 = .ok (.iload_n 1, 1) := by decide +kernel
theorem dX1_sharesWithOneOf_14 : decode cX1_sharesWithOneOf 14 = .ok (.invokevirtual 193, 3) := by decide +kernel
theorem dX1_sharesWithOneOf_17 : decode cX1_sharesWithOneOf 17 = .ok (.istore 4, 2) := by decide +kernel
theorem dX1_sharesWithOneOf_19 : decode cX1_sharesWithOneOf 19 = .ok (.iload 4, 2) := by decide +kernel
theorem dX1_sharesWithOneOf_21 : decode cX1_sharesWithOneOf 21 = .ok (.iload_n 3, 1) := by decide +kernel
theorem dX1_sharesWithOneOf_22 : decode cX1_sharesWithOneOf 22 = .ok (.if_icmp .ge 36, 3) := by decide +kernel
theorem dX1_sharesWithOneOf_25 : decode cX1_sharesWithOneOf 25 = .ok (.iload_n 2, 1) := by decide +kernel
theorem dX1_sharesWithOneOf_26 : decode cX1_sharesWithOneOf 26 = .ok (.aload_n 0, 1) := by decide +kernel
theorem dX1_sharesWithOneOf_27 : decode cX1_sharesWithOneOf 27 = .ok (.getfield 22, 3) := by decide +kernel
theorem dX1_sharesWithOneOf_30 : decode cX1_sharesWithOneOf 30 = .ok (.iload 4, 2) := by decide +kernel
theorem dX1_sharesWithOneOf_32 : decode cX1_sharesWithOneOf 32 = .ok (.iaload, 1) := by decide +kernel
theorem dX1_sharesWithOneOf_33 : decode cX1_sharesWithOneOf 33 = .ok (.ishr, 1) := by decide +kernel
theorem dX1_sharesWithOneOf_34 : decode cX1_sharesWithOneOf 34 = .ok (.iconst 1, 1) := by decide +kernel
theorem dX1_sharesWithOneOf_35 : decode cX1_sharesWithOneOf 35 = .ok (.iand, 1) := by decide +kernel
theorem dX1_sharesWithOneOf_36 : decode cX1_sharesWithOneOf 36 = .ok (.iconst 1, 1) := by decide +kernel
theorem dX1_sharesWithOneOf_37 : decode cX1_sharesWithOneOf 37 = .ok (.if_icmp .ne 15, 3) := by decide +kernel
theorem dX1_sharesWithOneOf_40 : decode cX1_sharesWithOneOf 40 = .ok (.aload_n 0, 1) := by decide +kernel
theorem dX1_sharesWithOneOf_41 : decode cX1_sharesWithOneOf 41 = .ok (.iload 4, 2) := by decide +kernel
theorem dX1_sharesWithOneOf_43 : decode cX1_sharesWithOneOf 43 = .ok (.iload_n 1, 1) := by decide +kernel
theorem dX1_sharesWithOneOf_44 : decode cX1_sharesWithOneOf 44 = .ok (.invokevirtual 196, 3) := by decide +kernel
theorem dX1_sharesWithOneOf_47 : decode cX1_sharesWithOneOf 47 = .ok (.ifCond .eq 5, 3) := by decide +kernel
theorem dX1_sharesWithOneOf_50 : decode cX1_sharesWithOneOf 50 = .ok (.iconst 1, 1) := by decide +kernel
theorem dX1_sharesWithOneOf_51 : decode cX1_sharesWithOneOf 51 = .ok (.ireturn, 1) := by decide +kernel
theorem dX1_sharesWithOneOf_52 : decode cX1_sharesWithOneOf 52 = .ok (.iinc 4 1, 3) := by decide +kernel
theorem dX1_sharesWithOneOf_55 : decode cX1_sharesWithOneOf 55 = .ok (.goto (-36), 3) := by decide +kernel
theorem dX1_sharesWithOneOf_58 : decode cX1_sharesWithOneOf 58 = .ok (.iconst 0, 1) := by decide +kernel
theorem dX1_sharesWithOneOf_59 : decode cX1_sharesWithOneOf 59 = .ok (.ireturn, 1) := by decide +kernel
theorem dX1_countClashes_0 : decode cX1_countClashes 0 = .ok (.iconst 0, 1) := by decide +kernel
theorem dX1_countClashes_1 : decode cX1_countClashes 1 = .ok (.istore_n 2, 1) := by decide +kernel
theorem dX1_countClashes_2 : decode cX1_countClashes 2 = .ok (.aload_n 0, 1) := by decide +kernel
theorem dX1_countClashes_3 : decode cX1_countClashes 3 = .ok (.getfield 41, 3) := by decide +kernel
theorem dX1_countClashes_6 : decode cX1_countClashes 6 = .ok (.aload_n 0, 1) := by decide +kernel
theorem dX1_countClashes_7 : decode cX1_countClashes 7 = .ok (.getfield 29, 3) := by decide +kernel
theorem dX1_countClashes_10 : decode cX1_countClashes 10 = .ok (.iload_n 1, 1) := by decide +kernel
theorem dX1_countClashes_11 : decode cX1_countClashes 11 = .ok (.iaload, 1) := by decide +kernel
theorem dX1_countClashes_12 : decode cX1_countClashes 12 = .ok (.iaload, 1) := by decide +kernel
theorem dX1_countClashes_13 : decode cX1_countClashes 13 = .ok (.istore_n 3, 1) := by decide +kernel
theorem dX1_countClashes_14 : decode cX1_countClashes 14 = .ok (.aload_n 0, 1) := by decide +kernel
theorem dX1_countClashes_15 : decode cX1_countClashes 15 = .ok (.iload_n 1, 1) := by decide +kernel
theorem dX1_countClashes_16 : decode cX1_countClashes 16 = .ok (.invokevirtual 193, 3) := by decide +kernel
theorem dX1_countClashes_19 : decode cX1_countClashes 19 = .ok (.istore 4, 2) := by decide +kernel
theorem dX1_countClashes_21 : decode cX1_countClashes 21 = .ok (.iload 4, 2) := by decide +kernel
theorem dX1_countClashes_23 : decode cX1_countClashes 23 = .ok (.iload_n 3, 1) := by decide +kernel
theorem dX1_countClashes_24 : decode cX1_countClashes 24 = .ok (.if_icmp .ge 28, 3) := by decide +kernel
theorem dX1_countClashes_27 : decode cX1_countClashes 27 = .ok (.iload 4, 2) := by decide +kernel
theorem dX1_countClashes_29 : decode cX1_countClashes 29 = .ok (.iload_n 1, 1) := by decide +kernel
theorem dX1_countClashes_30 : decode cX1_countClashes 30 = .ok (.if_icmp .eq 16, 3) := by decide +kernel
theorem dX1_countClashes_33 : decode cX1_countClashes 33 = .ok (.aload_n 0, 1) := by decide +kernel
theorem dX1_countClashes_34 : decode cX1_countClashes 34 = .ok (.iload 4, 2) := by decide +kernel
theorem dX1_countClashes_36 : decode cX1_countClashes 36 = .ok (.iload_n 1, 1) := by decide +kernel
theorem dX1_countClashes_37 : decode cX1_countClashes 37 = .ok (.invokevirtual 196, 3) := by decide +kernel
theorem dX1_countClashes_40 : decode cX1_countClashes 40 = .ok (.ifCond .eq 6, 3) := by decide +kernel
theorem dX1_countClashes_43 : decode cX1_countClashes 43 = .ok (.iinc 2 1, 3) := by decide +kernel
theorem dX1_countClashes_46 : decode cX1_countClashes 46 = .ok (.iinc 4 1, 3) := by decide +kernel
theorem dX1_countClashes_49 : decode cX1_countClashes 49 = .ok (.goto (-28), 3) := by decide +kernel
theorem dX1_countClashes_52 : decode cX1_countClashes 52 = .ok (.iload_n 2, 1) := by decide +kernel
theorem dX1_countClashes_53 : decode cX1_countClashes 53 = .ok (.ireturn, 1) := by decide +kernel
theorem dX1_weigh_0 : decode cX1_weigh 0 = .ok (.iconst 0, 1) := by decide +kernel
theorem dX1_weigh_1 : decode cX1_weigh 1 = .ok (.istore_n 3, 1) := by decide +kernel
theorem dX1_weigh_2 : decode cX1_weigh 2 = .ok (.iload_n 3, 1) := by decide +kernel
theorem dX1_weigh_3 : decode cX1_weigh 3 = .ok (.iload_n 1, 1) := by decide +kernel
theorem dX1_weigh_4 : decode cX1_weigh 4 = .ok (.if_icmp .gt 27, 3) := by decide +kernel
theorem dX1_weigh_7 : decode cX1_weigh 7 = .ok (.aload_n 0, 1) := by decide +kernel
theorem dX1_weigh_8 : decode cX1_weigh 8 = .ok (.getfield 44, 3) := by decide +kernel
theorem dX1_weigh_11 : decode cX1_weigh 11 = .ok (.aload_n 0, 1) := by decide +kernel
theorem dX1_weigh_12 : decode cX1_weigh 12 = .ok (.getfield 12, 3) := by decide +kernel
theorem dX1_weigh_15 : decode cX1_weigh 15 = .ok (.getfield 70, 3) := by decide +kernel
theorem dX1_weigh_18 : decode cX1_weigh 18 = .ok (.bipush 21, 2) := by decide +kernel
theorem dX1_weigh_20 : decode cX1_weigh 20 = .ok (.imul, 1) := by decide +kernel
theorem dX1_weigh_21 : decode cX1_weigh 21 = .ok (.iload_n 3, 1) := by decide +kernel
theorem dX1_weigh_22 : decode cX1_weigh 22 = .ok (.iadd, 1) := by decide +kernel
theorem dX1_weigh_23 : decode cX1_weigh 23 = .ok (.iconst 0, 1) := by decide +kernel
theorem dX1_weigh_24 : decode cX1_weigh 24 = .ok (.iastore, 1) := by decide +kernel
theorem dX1_weigh_25 : decode cX1_weigh 25 = .ok (.iinc 3 1, 3) := by decide +kernel
theorem dX1_weigh_28 : decode cX1_weigh 28 = .ok (.goto (-26), 3) := by decide +kernel
theorem dX1_weigh_31 : decode cX1_weigh 31 = .ok (.aload_n 0, 1) := by decide +kernel
theorem dX1_weigh_32 : decode cX1_weigh 32 = .ok (.getfield 12, 3) := by decide +kernel
theorem dX1_weigh_35 : decode cX1_weigh 35 = .ok (.getfield 70, 3) := by decide +kernel
theorem dX1_weigh_38 : decode cX1_weigh 38 = .ok (.iconst 1, 1) := by decide +kernel
theorem dX1_weigh_39 : decode cX1_weigh 39 = .ok (.isub, 1) := by decide +kernel
theorem dX1_weigh_40 : decode cX1_weigh 40 = .ok (.istore_n 3, 1) := by decide +kernel
theorem dX1_weigh_41 : decode cX1_weigh 41 = .ok (.iload_n 3, 1) := by decide +kernel
theorem dX1_weigh_42 : decode cX1_weigh 42 = .ok (.ifCond .lt 118, 3) := by decide +kernel
theorem dX1_weigh_45 : decode cX1_weigh 45 = .ok (.aload_n 0, 1) := by decide +kernel
theorem dX1_weigh_46 : decode cX1_weigh 46 = .ok (.getfield 44, 3) := by decide +kernel
theorem dX1_weigh_49 : decode cX1_weigh 49 = .ok (.iload_n 3, 1) := by decide +kernel
theorem dX1_weigh_50 : decode cX1_weigh 50 = .ok (.bipush 21, 2) := by decide +kernel
theorem dX1_weigh_52 : decode cX1_weigh 52 = .ok (.imul, 1) := by decide +kernel
theorem dX1_weigh_53 : decode cX1_weigh 53 = .ok (.iconst 0, 1) := by decide +kernel
theorem dX1_weigh_54 : decode cX1_weigh 54 = .ok (.iastore, 1) := by decide +kernel
theorem dX1_weigh_55 : decode cX1_weigh 55 = .ok (.iconst 1, 1) := by decide +kernel
theorem dX1_weigh_56 : decode cX1_weigh 56 = .ok (.istore 4, 2) := by decide +kernel
theorem dX1_weigh_58 : decode cX1_weigh 58 = .ok (.iload 4, 2) := by decide +kernel
theorem dX1_weigh_60 : decode cX1_weigh 60 = .ok (.iload_n 1, 1) := by decide +kernel
theorem dX1_weigh_61 : decode cX1_weigh 61 = .ok (.if_icmp .gt 93, 3) := by decide +kernel
theorem dX1_weigh_64 : decode cX1_weigh 64 = .ok (.aload_n 0, 1) := by decide +kernel
theorem dX1_weigh_65 : decode cX1_weigh 65 = .ok (.getfield 44, 3) := by decide +kernel
theorem dX1_weigh_68 : decode cX1_weigh 68 = .ok (.iload_n 3, 1) := by decide +kernel
theorem dX1_weigh_69 : decode cX1_weigh 69 = .ok (.iconst 1, 1) := by decide +kernel
theorem dX1_weigh_70 : decode cX1_weigh 70 = .ok (.iadd, 1) := by decide +kernel
theorem dX1_weigh_71 : decode cX1_weigh 71 = .ok (.bipush 21, 2) := by decide +kernel
theorem dX1_weigh_73 : decode cX1_weigh 73 = .ok (.imul, 1) := by decide +kernel
theorem dX1_weigh_74 : decode cX1_weigh 74 = .ok (.iload 4, 2) := by decide +kernel
theorem dX1_weigh_76 : decode cX1_weigh 76 = .ok (.iadd, 1) := by decide +kernel
theorem dX1_weigh_77 : decode cX1_weigh 77 = .ok (.iaload, 1) := by decide +kernel
theorem dX1_weigh_78 : decode cX1_weigh 78 = .ok (.istore 5, 2) := by decide +kernel
theorem dX1_weigh_80 : decode cX1_weigh 80 = .ok (.aload_n 0, 1) := by decide +kernel
theorem dX1_weigh_81 : decode cX1_weigh 81 = .ok (.getfield 41, 3) := by decide +kernel
theorem dX1_weigh_84 : decode cX1_weigh 84 = .ok (.iload_n 3, 1) := by decide +kernel
theorem dX1_weigh_85 : decode cX1_weigh 85 = .ok (.iaload, 1) := by decide +kernel
theorem dX1_weigh_86 : decode cX1_weigh 86 = .ok (.istore 6, 2) := by decide +kernel
theorem dX1_weigh_88 : decode cX1_weigh 88 = .ok (.iload 6, 2) := by decide +kernel
theorem dX1_weigh_90 : decode cX1_weigh 90 = .ok (.aload_n 0, 1) := by decide +kernel
theorem dX1_weigh_91 : decode cX1_weigh 91 = .ok (.getfield 41, 3) := by decide +kernel
theorem dX1_weigh_94 : decode cX1_weigh 94 = .ok (.iload_n 3, 1) := by decide +kernel
theorem dX1_weigh_95 : decode cX1_weigh 95 = .ok (.iconst 1, 1) := by decide +kernel
theorem dX1_weigh_96 : decode cX1_weigh 96 = .ok (.iadd, 1) := by decide +kernel
theorem dX1_weigh_97 : decode cX1_weigh 97 = .ok (.iaload, 1) := by decide +kernel
theorem dX1_weigh_98 : decode cX1_weigh 98 = .ok (.if_icmp .ge 36, 3) := by decide +kernel
theorem dX1_weigh_101 : decode cX1_weigh 101 = .ok (.aload_n 0, 1) := by decide +kernel
theorem dX1_weigh_102 : decode cX1_weigh 102 = .ok (.getfield 38, 3) := by decide +kernel
theorem dX1_weigh_105 : decode cX1_weigh 105 = .ok (.iload 6, 2) := by decide +kernel
theorem dX1_weigh_107 : decode cX1_weigh 107 = .ok (.iaload, 1) := by decide +kernel
theorem dX1_weigh_108 : decode cX1_weigh 108 = .ok (.ifCond .ne 20, 3) := by decide +kernel
theorem dX1_weigh_111 : decode cX1_weigh 111 = .ok (.iload 5, 2) := by decide +kernel
theorem dX1_weigh_113 : decode cX1_weigh 113 = .ok (.aload_n 0, 1) := by decide +kernel
theorem dX1_weigh_114 : decode cX1_weigh 114 = .ok (.iload 6, 2) := by decide +kernel
theorem dX1_weigh_116 : decode cX1_weigh 116 = .ok (.iload 4, 2) := by decide +kernel
theorem dX1_weigh_118 : decode cX1_weigh 118 = .ok (.iload_n 2, 1) := by decide +kernel
theorem dX1_weigh_119 : decode cX1_weigh 119 = .ok (.isub, 1) := by decide +kernel
theorem dX1_weigh_120 : decode cX1_weigh 120 = .ok (.invokevirtual 199, 3) := by decide +kernel
theorem dX1_weigh_123 : decode cX1_weigh 123 = .ok (.invokestatic 179, 3) := by decide +kernel
theorem dX1_weigh_126 : decode cX1_weigh 126 = .ok (.istore 5, 2) := by decide +kernel
theorem dX1_weigh_128 : decode cX1_weigh 128 = .ok (.iinc 6 1, 3) := by decide +kernel
theorem dX1_weigh_131 : decode cX1_weigh 131 = .ok (.goto (-43), 3) := by decide +kernel
theorem dX1_weigh_134 : decode cX1_weigh 134 = .ok (.aload_n 0, 1) := by decide +kernel
theorem dX1_weigh_135 : decode cX1_weigh 135 = .ok (.getfield 44, 3) := by decide +kernel
theorem dX1_weigh_138 : decode cX1_weigh 138 = .ok (.iload_n 3, 1) := by decide +kernel
theorem dX1_weigh_139 : decode cX1_weigh 139 = .ok (.bipush 21, 2) := by decide +kernel
theorem dX1_weigh_141 : decode cX1_weigh 141 = .ok (.imul, 1) := by decide +kernel
theorem dX1_weigh_142 : decode cX1_weigh 142 = .ok (.iload 4, 2) := by decide +kernel
theorem dX1_weigh_144 : decode cX1_weigh 144 = .ok (.iadd, 1) := by decide +kernel
theorem dX1_weigh_145 : decode cX1_weigh 145 = .ok (.iload 5, 2) := by decide +kernel
theorem dX1_weigh_147 : decode cX1_weigh 147 = .ok (.iastore, 1) := by decide +kernel
theorem dX1_weigh_148 : decode cX1_weigh 148 = .ok (.iinc 4 1, 3) := by decide +kernel
theorem dX1_weigh_151 : decode cX1_weigh 151 = .ok (.goto (-93), 3) := by decide +kernel
theorem dX1_weigh_154 : decode cX1_weigh 154 = .ok (.iinc 3 (-1), 3) := by decide +kernel
theorem dX1_weigh_157 : decode cX1_weigh 157 = .ok (.goto (-116), 3) := by decide +kernel
theorem dX1_weigh_160 : decode cX1_weigh 160 = .ok (.return_, 1) := by decide +kernel
theorem dX1_gain_0 : decode cX1_gain 0 = .ok (.aload_n 0, 1) := by decide +kernel
theorem dX1_gain_1 : decode cX1_gain 1 = .ok (.getfield 35, 3) := by decide +kernel
theorem dX1_gain_4 : decode cX1_gain 4 = .ok (.iload_n 1, 1) := by decide +kernel
theorem dX1_gain_5 : decode cX1_gain 5 = .ok (.iaload, 1) := by decide +kernel
theorem dX1_gain_6 : decode cX1_gain 6 = .ok (.sipush 256, 3) := by decide +kernel
theorem dX1_gain_9 : decode cX1_gain 9 = .ok (.imul, 1) := by decide +kernel
theorem dX1_gain_10 : decode cX1_gain 10 = .ok (.iconst 1, 1) := by decide +kernel
theorem dX1_gain_11 : decode cX1_gain 11 = .ok (.isub, 1) := by decide +kernel
theorem dX1_gain_12 : decode cX1_gain 12 = .ok (.aload_n 0, 1) := by decide +kernel
theorem dX1_gain_13 : decode cX1_gain 13 = .ok (.getfield 44, 3) := by decide +kernel
theorem dX1_gain_16 : decode cX1_gain 16 = .ok (.aload_n 0, 1) := by decide +kernel
theorem dX1_gain_17 : decode cX1_gain 17 = .ok (.getfield 29, 3) := by decide +kernel
theorem dX1_gain_20 : decode cX1_gain 20 = .ok (.iload_n 1, 1) := by decide +kernel
theorem dX1_gain_21 : decode cX1_gain 21 = .ok (.iaload, 1) := by decide +kernel
theorem dX1_gain_22 : decode cX1_gain 22 = .ok (.bipush 21, 2) := by decide +kernel
theorem dX1_gain_24 : decode cX1_gain 24 = .ok (.imul, 1) := by decide +kernel
theorem dX1_gain_25 : decode cX1_gain 25 = .ok (.iload_n 2, 1) := by decide +kernel
theorem dX1_gain_26 : decode cX1_gain 26 = .ok (.iadd, 1) := by decide +kernel
theorem dX1_gain_27 : decode cX1_gain 27 = .ok (.iaload, 1) := by decide +kernel
theorem dX1_gain_28 : decode cX1_gain 28 = .ok (.iadd, 1) := by decide +kernel
theorem dX1_gain_29 : decode cX1_gain 29 = .ok (.ireturn, 1) := by decide +kernel
theorem dX1_pick_0 : decode cX1_pick 0 = .ok (.aload_n 0, 1) := by decide +kernel
theorem dX1_pick_1 : decode cX1_pick 1 = .ok (.iconst 0, 1) := by decide +kernel
theorem dX1_pick_2 : decode cX1_pick 2 = .ok (.putfield 99, 3) := by decide +kernel
theorem dX1_pick_5 : decode cX1_pick 5 = .ok (.iload_n 1, 1) := by decide +kernel
theorem dX1_pick_6 : decode cX1_pick 6 = .ok (.istore_n 3, 1) := by decide +kernel
theorem dX1_pick_7 : decode cX1_pick 7 = .ok (.iconst 0, 1) := by decide +kernel
theorem dX1_pick_8 : decode cX1_pick 8 = .ok (.istore 4, 2) := by decide +kernel
theorem dX1_pick_10 : decode cX1_pick 10 = .ok (.iconst 0, 1) := by decide +kernel
theorem dX1_pick_11 : decode cX1_pick 11 = .ok (.istore 5, 2) := by decide +kernel
theorem dX1_pick_13 : decode cX1_pick 13 = .ok (.iload 5, 2) := by decide +kernel
theorem dX1_pick_15 : decode cX1_pick 15 = .ok (.aload_n 0, 1) := by decide +kernel
theorem dX1_pick_16 : decode cX1_pick 16 = .ok (.getfield 12, 3) := by decide +kernel
theorem dX1_pick_19 : decode cX1_pick 19 = .ok (.getfield 70, 3) := by decide +kernel
theorem dX1_pick_22 : decode cX1_pick 22 = .ok (.if_icmp .ge 74, 3) := by decide +kernel
theorem dX1_pick_25 : decode cX1_pick 25 = .ok (.iload_n 3, 1) := by decide +kernel
theorem dX1_pick_26 : decode cX1_pick 26 = .ok (.ifCond .le 70, 3) := by decide +kernel
theorem dX1_pick_29 : decode cX1_pick 29 = .ok (.iload 5, 2) := by decide +kernel
theorem dX1_pick_31 : decode cX1_pick 31 = .ok (.iload 4, 2) := by decide +kernel
theorem dX1_pick_33 : decode cX1_pick 33 = .ok (.if_icmp .ge 7, 3) := by decide +kernel
theorem dX1_pick_36 : decode cX1_pick 36 = .ok (.iconst (-1), 1) := by decide +kernel
theorem dX1_pick_37 : decode cX1_pick 37 = .ok (.goto 11, 3) := by decide +kernel
theorem dX1_pick_40 : decode cX1_pick 40 = .ok (.aload_n 0, 1) := by decide +kernel
theorem dX1_pick_41 : decode cX1_pick 41 = .ok (.iload 5, 2) := by decide +kernel
theorem dX1_pick_43 : decode cX1_pick 43 = .ok (.iload_n 3, 1) := by decide +kernel
theorem dX1_pick_44 : decode cX1_pick 44 = .ok (.iload_n 2, 1) := by decide +kernel
theorem dX1_pick_45 : decode cX1_pick 45 = .ok (.invokevirtual 202, 3) := by decide +kernel
theorem dX1_pick_48 : decode cX1_pick 48 = .ok (.istore 6, 2) := by decide +kernel
theorem dX1_pick_50 : decode cX1_pick 50 = .ok (.iload 6, 2) := by decide +kernel
theorem dX1_pick_52 : decode cX1_pick 52 = .ok (.iconst (-1), 1) := by decide +kernel
theorem dX1_pick_53 : decode cX1_pick 53 = .ok (.if_icmp .eq 37, 3) := by decide +kernel
theorem dX1_pick_56 : decode cX1_pick 56 = .ok (.aload_n 0, 1) := by decide +kernel
theorem dX1_pick_57 : decode cX1_pick 57 = .ok (.getfield 47, 3) := by decide +kernel
theorem dX1_pick_60 : decode cX1_pick 60 = .ok (.aload_n 0, 1) := by decide +kernel
theorem dX1_pick_61 : decode cX1_pick 61 = .ok (.getfield 99, 3) := by decide +kernel
theorem dX1_pick_64 : decode cX1_pick 64 = .ok (.iload 6, 2) := by decide +kernel
theorem dX1_pick_66 : decode cX1_pick 66 = .ok (.iastore, 1) := by decide +kernel
theorem dX1_pick_67 : decode cX1_pick 67 = .ok (.aload_n 0, 1) := by decide +kernel
theorem dX1_pick_68 : decode cX1_pick 68 = .ok (.dup, 1) := by decide +kernel
theorem dX1_pick_69 : decode cX1_pick 69 = .ok (.getfield 99, 3) := by decide +kernel
theorem dX1_pick_72 : decode cX1_pick 72 = .ok (.iconst 1, 1) := by decide +kernel
theorem dX1_pick_73 : decode cX1_pick 73 = .ok (.iadd, 1) := by decide +kernel
theorem dX1_pick_74 : decode cX1_pick 74 = .ok (.putfield 99, 3) := by decide +kernel
theorem dX1_pick_77 : decode cX1_pick 77 = .ok (.iload_n 3, 1) := by decide +kernel
theorem dX1_pick_78 : decode cX1_pick 78 = .ok (.iload_n 2, 1) := by decide +kernel
theorem dX1_pick_79 : decode cX1_pick 79 = .ok (.isub, 1) := by decide +kernel
theorem dX1_pick_80 : decode cX1_pick 80 = .ok (.istore_n 3, 1) := by decide +kernel
theorem dX1_pick_81 : decode cX1_pick 81 = .ok (.aload_n 0, 1) := by decide +kernel
theorem dX1_pick_82 : decode cX1_pick 82 = .ok (.getfield 29, 3) := by decide +kernel
theorem dX1_pick_85 : decode cX1_pick 85 = .ok (.iload 6, 2) := by decide +kernel
theorem dX1_pick_87 : decode cX1_pick 87 = .ok (.iaload, 1) := by decide +kernel
theorem dX1_pick_88 : decode cX1_pick 88 = .ok (.istore 4, 2) := by decide +kernel
theorem dX1_pick_90 : decode cX1_pick 90 = .ok (.iinc 5 1, 3) := by decide +kernel
theorem dX1_pick_93 : decode cX1_pick 93 = .ok (.goto (-80), 3) := by decide +kernel
theorem dX1_pick_96 : decode cX1_pick 96 = .ok (.return_, 1) := by decide +kernel
theorem dX1_firstBest_0 : decode cX1_firstBest 0 = .ok (.aload_n 0, 1) := by decide +kernel
theorem dX1_firstBest_1 : decode cX1_firstBest 1 = .ok (.getfield 44, 3) := by decide +kernel
theorem dX1_firstBest_4 : decode cX1_firstBest 4 = .ok (.iload_n 1, 1) := by decide +kernel
theorem dX1_firstBest_5 : decode cX1_firstBest 5 = .ok (.bipush 21, 2) := by decide +kernel
theorem dX1_firstBest_7 : decode cX1_firstBest 7 = .ok (.imul, 1) := by decide +kernel
theorem dX1_firstBest_8 : decode cX1_firstBest 8 = .ok (.iload_n 2, 1) := by decide +kernel
theorem dX1_firstBest_9 : decode cX1_firstBest 9 = .ok (.iadd, 1) := by decide +kernel
theorem dX1_firstBest_10 : decode cX1_firstBest 10 = .ok (.iaload, 1) := by decide +kernel
theorem dX1_firstBest_11 : decode cX1_firstBest 11 = .ok (.istore 4, 2) := by decide +kernel
theorem dX1_firstBest_13 : decode cX1_firstBest 13 = .ok (.aload_n 0, 1) := by decide +kernel
theorem dX1_firstBest_14 : decode cX1_firstBest 14 = .ok (.getfield 41, 3) := by decide +kernel
theorem dX1_firstBest_17 : decode cX1_firstBest 17 = .ok (.iload_n 1, 1) := by decide +kernel
theorem dX1_firstBest_18 : decode cX1_firstBest 18 = .ok (.iaload, 1) := by decide +kernel
theorem dX1_firstBest_19 : decode cX1_firstBest 19 = .ok (.istore 5, 2) := by decide +kernel
theorem dX1_firstBest_21 : decode cX1_firstBest 21 = .ok (.iload 5, 2) := by decide +kernel
theorem dX1_firstBest_23 : decode cX1_firstBest 23 = .ok (.aload_n 0, 1) := by decide +kernel
theorem dX1_firstBest_24 : decode cX1_firstBest 24 = .ok (.getfield 41, 3) := by decide +kernel
theorem dX1_firstBest_27 : decode cX1_firstBest 27 = .ok (.iload_n 1, 1) := by decide +kernel
theorem dX1_firstBest_28 : decode cX1_firstBest 28 = .ok (.iconst 1, 1) := by decide +kernel
theorem dX1_firstBest_29 : decode cX1_firstBest 29 = .ok (.iadd, 1) := by decide +kernel
theorem dX1_firstBest_30 : decode cX1_firstBest 30 = .ok (.iaload, 1) := by decide +kernel
theorem dX1_firstBest_31 : decode cX1_firstBest 31 = .ok (.if_icmp .ge 36, 3) := by decide +kernel
theorem dX1_firstBest_34 : decode cX1_firstBest 34 = .ok (.aload_n 0, 1) := by decide +kernel
theorem dX1_firstBest_35 : decode cX1_firstBest 35 = .ok (.getfield 38, 3) := by decide +kernel
theorem dX1_firstBest_38 : decode cX1_firstBest 38 = .ok (.iload 5, 2) := by decide +kernel
theorem dX1_firstBest_40 : decode cX1_firstBest 40 = .ok (.iaload, 1) := by decide +kernel
theorem dX1_firstBest_41 : decode cX1_firstBest 41 = .ok (.ifCond .ne 20, 3) := by decide +kernel
theorem dX1_firstBest_44 : decode cX1_firstBest 44 = .ok (.aload_n 0, 1) := by decide +kernel
theorem dX1_firstBest_45 : decode cX1_firstBest 45 = .ok (.iload 5, 2) := by decide +kernel
theorem dX1_firstBest_47 : decode cX1_firstBest 47 = .ok (.iload_n 2, 1) := by decide +kernel
theorem dX1_firstBest_48 : decode cX1_firstBest 48 = .ok (.iload_n 3, 1) := by decide +kernel
theorem dX1_firstBest_49 : decode cX1_firstBest 49 = .ok (.isub, 1) := by decide +kernel
theorem dX1_firstBest_50 : decode cX1_firstBest 50 = .ok (.invokevirtual 199, 3) := by decide +kernel
theorem dX1_firstBest_53 : decode cX1_firstBest 53 = .ok (.iload 4, 2) := by decide +kernel
theorem dX1_firstBest_55 : decode cX1_firstBest 55 = .ok (.if_icmp .ne 6, 3) := by decide +kernel
theorem dX1_firstBest_58 : decode cX1_firstBest 58 = .ok (.iload 5, 2) := by decide +kernel
theorem dX1_firstBest_60 : decode cX1_firstBest 60 = .ok (.ireturn, 1) := by decide +kernel
theorem dX1_firstBest_61 : decode cX1_firstBest 61 = .ok (.iinc 5 1, 3) := by decide +kernel
theorem dX1_firstBest_64 : decode cX1_firstBest 64 = .ok (.goto (-43), 3) := by decide +kernel
theorem dX1_firstBest_67 : decode cX1_firstBest 67 = .ok (.iconst (-1), 1) := by decide +kernel
theorem dX1_firstBest_68 : decode cX1_firstBest 68 = .ok (.ireturn, 1) := by decide +kernel
theorem dX1_canBeMade_0 : decode cX1_canBeMade 0 = .ok (.aload_n 0, 1) := by decide +kernel
theorem dX1_canBeMade_1 : decode cX1_canBeMade 1 = .ok (.getfield 99, 3) := by decide +kernel
theorem dX1_canBeMade_4 : decode cX1_canBeMade 4 = .ok (.ifCond .le 25, 3) := by decide +kernel
theorem dX1_canBeMade_7 : decode cX1_canBeMade 7 = .ok (.aload_n 0, 1) := by decide +kernel
theorem dX1_canBeMade_8 : decode cX1_canBeMade 8 = .ok (.aload_n 0, 1) := by decide +kernel
theorem dX1_canBeMade_9 : decode cX1_canBeMade 9 = .ok (.getfield 47, 3) := by decide +kernel
theorem dX1_canBeMade_12 : decode cX1_canBeMade 12 = .ok (.aload_n 0, 1) := by decide +kernel
theorem dX1_canBeMade_13 : decode cX1_canBeMade 13 = .ok (.getfield 99, 3) := by decide +kernel
theorem dX1_canBeMade_16 : decode cX1_canBeMade 16 = .ok (.invokevirtual 205, 3) := by decide +kernel
theorem dX1_canBeMade_19 : decode cX1_canBeMade 19 = .ok (.sipush 200, 3) := by decide +kernel
theorem dX1_canBeMade_22 : decode cX1_canBeMade 22 = .ok (.if_icmp .gt 7, 3) := by decide +kernel
theorem dX1_canBeMade_25 : decode cX1_canBeMade 25 = .ok (.iconst 1, 1) := by decide +kernel
theorem dX1_canBeMade_26 : decode cX1_canBeMade 26 = .ok (.goto 4, 3) := by decide +kernel
theorem dX1_canBeMade_29 : decode cX1_canBeMade 29 = .ok (.iconst 0, 1) := by decide +kernel
theorem dX1_canBeMade_30 : decode cX1_canBeMade 30 = .ok (.ireturn, 1) := by decide +kernel
theorem dX1_lengthBehind_0 : decode cX1_lengthBehind 0 = .ok (.aload_n 0, 1) := by decide +kernel
theorem dX1_lengthBehind_1 : decode cX1_lengthBehind 1 = .ok (.getfield 56, 3) := by decide +kernel
theorem dX1_lengthBehind_4 : decode cX1_lengthBehind 4 = .ok (.getfield 209, 3) := by decide +kernel
theorem dX1_lengthBehind_7 : decode cX1_lengthBehind 7 = .ok (.istore_n 3, 1) := by decide +kernel
theorem dX1_lengthBehind_8 : decode cX1_lengthBehind 8 = .ok (.iconst 0, 1) := by decide +kernel
theorem dX1_lengthBehind_9 : decode cX1_lengthBehind 9 = .ok (.istore 4, 2) := by decide +kernel
theorem dX1_lengthBehind_11 : decode cX1_lengthBehind 11 = .ok (.iload 4, 2) := by decide +kernel
theorem dX1_lengthBehind_13 : decode cX1_lengthBehind 13 = .ok (.iload_n 2, 1) := by decide +kernel
theorem dX1_lengthBehind_14 : decode cX1_lengthBehind 14 = .ok (.if_icmp .ge 20, 3) := by decide +kernel
theorem dX1_lengthBehind_17 : decode cX1_lengthBehind 17 = .ok (.iload_n 3, 1) := by decide +kernel
theorem dX1_lengthBehind_18 : decode cX1_lengthBehind 18 = .ok (.aload_n 0, 1) := by decide +kernel
theorem dX1_lengthBehind_19 : decode cX1_lengthBehind 19 = .ok (.aload_n 1, 1) := by decide +kernel
theorem dX1_lengthBehind_20 : decode cX1_lengthBehind 20 = .ok (.iload 4, 2) := by decide +kernel
theorem dX1_lengthBehind_22 : decode cX1_lengthBehind 22 = .ok (.iaload, 1) := by decide +kernel
theorem dX1_lengthBehind_23 : decode cX1_lengthBehind 23 = .ok (.invokevirtual 212, 3) := by decide +kernel
theorem dX1_lengthBehind_26 : decode cX1_lengthBehind 26 = .ok (.iadd, 1) := by decide +kernel
theorem dX1_lengthBehind_27 : decode cX1_lengthBehind 27 = .ok (.istore_n 3, 1) := by decide +kernel
theorem dX1_lengthBehind_28 : decode cX1_lengthBehind 28 = .ok (.iinc 4 1, 3) := by decide +kernel
theorem dX1_lengthBehind_31 : decode cX1_lengthBehind 31 = .ok (.goto (-20), 3) := by decide +kernel
theorem dX1_lengthBehind_34 : decode cX1_lengthBehind 34 = .ok (.iload_n 3, 1) := by decide +kernel
theorem dX1_lengthBehind_35 : decode cX1_lengthBehind 35 = .ok (.ireturn, 1) := by decide +kernel
theorem dX1_growth_0 : decode cX1_growth 0 = .ok (.aload_n 0, 1) := by decide +kernel
theorem dX1_growth_1 : decode cX1_growth 1 = .ok (.getfield 32, 3) := by decide +kernel
theorem dX1_growth_4 : decode cX1_growth 4 = .ok (.iload_n 1, 1) := by decide +kernel
theorem dX1_growth_5 : decode cX1_growth 5 = .ok (.iaload, 1) := by decide +kernel
theorem dX1_growth_6 : decode cX1_growth 6 = .ok (.aload_n 0, 1) := by decide +kernel
theorem dX1_growth_7 : decode cX1_growth 7 = .ok (.getfield 12, 3) := by decide +kernel
theorem dX1_growth_10 : decode cX1_growth 10 = .ok (.getfield 134, 3) := by decide +kernel
theorem dX1_growth_13 : decode cX1_growth 13 = .ok (.aload_n 0, 1) := by decide +kernel
theorem dX1_growth_14 : decode cX1_growth 14 = .ok (.getfield 29, 3) := by decide +kernel
theorem dX1_growth_17 : decode cX1_growth 17 = .ok (.iload_n 1, 1) := by decide +kernel
theorem dX1_growth_18 : decode cX1_growth 18 = .ok (.iaload, 1) := by decide +kernel
theorem dX1_growth_19 : decode cX1_growth 19 = .ok (.iaload, 1) := by decide +kernel
theorem dX1_growth_20 : decode cX1_growth 20 = .ok (.aload_n 0, 1) := by decide +kernel
theorem dX1_growth_21 : decode cX1_growth 21 = .ok (.getfield 12, 3) := by decide +kernel
theorem dX1_growth_24 : decode cX1_growth 24 = .ok (.getfield 134, 3) := by decide +kernel
theorem dX1_growth_27 : decode cX1_growth 27 = .ok (.aload_n 0, 1) := by decide +kernel
theorem dX1_growth_28 : decode cX1_growth 28 = .ok (.getfield 26, 3) := by decide +kernel
theorem dX1_growth_31 : decode cX1_growth 31 = .ok (.iload_n 1, 1) := by decide +kernel
theorem dX1_growth_32 : decode cX1_growth 32 = .ok (.iaload, 1) := by decide +kernel
theorem dX1_growth_33 : decode cX1_growth 33 = .ok (.iaload, 1) := by decide +kernel
theorem dX1_growth_34 : decode cX1_growth 34 = .ok (.isub, 1) := by decide +kernel
theorem dX1_growth_35 : decode cX1_growth 35 = .ok (.isub, 1) := by decide +kernel
theorem dX1_growth_36 : decode cX1_growth 36 = .ok (.ireturn, 1) := by decide +kernel
theorem dX1_rewrite_0 : decode cX1_rewrite 0 = .ok (.aload_n 3, 1) := by decide +kernel
theorem dX1_rewrite_1 : decode cX1_rewrite 1 = .ok (.iconst 0, 1) := by decide +kernel
theorem dX1_rewrite_2 : decode cX1_rewrite 2 = .ok (.putfield 209, 3) := by decide +kernel
theorem dX1_rewrite_5 : decode cX1_rewrite 5 = .ok (.aload_n 3, 1) := by decide +kernel
theorem dX1_rewrite_6 : decode cX1_rewrite 6 = .ok (.aload_n 0, 1) := by decide +kernel
theorem dX1_rewrite_7 : decode cX1_rewrite 7 = .ok (.getfield 56, 3) := by decide +kernel
theorem dX1_rewrite_10 : decode cX1_rewrite 10 = .ok (.invokevirtual 215, 3) := by decide +kernel
theorem dX1_rewrite_13 : decode cX1_rewrite 13 = .ok (.iconst 0, 1) := by decide +kernel
theorem dX1_rewrite_14 : decode cX1_rewrite 14 = .ok (.istore 4, 2) := by decide +kernel
theorem dX1_rewrite_16 : decode cX1_rewrite 16 = .ok (.iconst 0, 1) := by decide +kernel
theorem dX1_rewrite_17 : decode cX1_rewrite 17 = .ok (.istore 5, 2) := by decide +kernel
theorem dX1_rewrite_19 : decode cX1_rewrite 19 = .ok (.iload 5, 2) := by decide +kernel
theorem dX1_rewrite_21 : decode cX1_rewrite 21 = .ok (.iload_n 2, 1) := by decide +kernel
theorem dX1_rewrite_22 : decode cX1_rewrite 22 = .ok (.if_icmp .ge 92, 3) := by decide +kernel
theorem dX1_rewrite_25 : decode cX1_rewrite 25 = .ok (.aload_n 1, 1) := by decide +kernel
theorem dX1_rewrite_26 : decode cX1_rewrite 26 = .ok (.iload 5, 2) := by decide +kernel
theorem dX1_rewrite_28 : decode cX1_rewrite 28 = .ok (.iaload, 1) := by decide +kernel
theorem dX1_rewrite_29 : decode cX1_rewrite 29 = .ok (.istore 6, 2) := by decide +kernel
theorem dX1_rewrite_31 : decode cX1_rewrite 31 = .ok (.aload_n 3, 1) := by decide +kernel
theorem dX1_rewrite_32 : decode cX1_rewrite 32 = .ok (.aload_n 0, 1) := by decide +kernel
theorem dX1_rewrite_33 : decode cX1_rewrite 33 = .ok (.getfield 56, 3) := by decide +kernel
theorem dX1_rewrite_36 : decode cX1_rewrite 36 = .ok (.iload 4, 2) := by decide +kernel
theorem dX1_rewrite_38 : decode cX1_rewrite 38 = .ok (.aload_n 0, 1) := by decide +kernel
theorem dX1_rewrite_39 : decode cX1_rewrite 39 = .ok (.iload 6, 2) := by decide +kernel
theorem dX1_rewrite_41 : decode cX1_rewrite 41 = .ok (.invokevirtual 218, 3) := by decide +kernel
theorem dX1_rewrite_44 : decode cX1_rewrite 44 = .ok (.invokevirtual 221, 3) := by decide +kernel
theorem dX1_rewrite_47 : decode cX1_rewrite 47 = .ok (.aload_n 0, 1) := by decide +kernel
theorem dX1_rewrite_48 : decode cX1_rewrite 48 = .ok (.aload_n 0, 1) := by decide +kernel
theorem dX1_rewrite_49 : decode cX1_rewrite 49 = .ok (.getfield 22, 3) := by decide +kernel
theorem dX1_rewrite_52 : decode cX1_rewrite 52 = .ok (.iload 6, 2) := by decide +kernel
theorem dX1_rewrite_54 : decode cX1_rewrite 54 = .ok (.iaload, 1) := by decide +kernel
theorem dX1_rewrite_55 : decode cX1_rewrite 55 = .ok (.aload_n 0, 1) := by decide +kernel
theorem dX1_rewrite_56 : decode cX1_rewrite 56 = .ok (.getfield 26, 3) := by decide +kernel
theorem dX1_rewrite_59 : decode cX1_rewrite 59 = .ok (.iload 6, 2) := by decide +kernel
theorem dX1_rewrite_61 : decode cX1_rewrite 61 = .ok (.iaload, 1) := by decide +kernel
theorem dX1_rewrite_62 : decode cX1_rewrite 62 = .ok (.invokevirtual 137, 3) := by decide +kernel
theorem dX1_rewrite_65 : decode cX1_rewrite 65 = .ok (.aload_n 3, 1) := by decide +kernel
theorem dX1_rewrite_66 : decode cX1_rewrite 66 = .ok (.aload_n 0, 1) := by decide +kernel
theorem dX1_rewrite_67 : decode cX1_rewrite 67 = .ok (.getfield 18, 3) := by decide +kernel
theorem dX1_rewrite_70 : decode cX1_rewrite 70 = .ok (.aload_n 0, 1) := by decide +kernel
theorem dX1_rewrite_71 : decode cX1_rewrite 71 = .ok (.getfield 143, 3) := by decide +kernel
theorem dX1_rewrite_74 : decode cX1_rewrite 74 = .ok (.aload_n 0, 1) := by decide +kernel
theorem dX1_rewrite_75 : decode cX1_rewrite 75 = .ok (.getfield 22, 3) := by decide +kernel
theorem dX1_rewrite_78 : decode cX1_rewrite 78 = .ok (.iload 6, 2) := by decide +kernel
theorem dX1_rewrite_80 : decode cX1_rewrite 80 = .ok (.iaload, 1) := by decide +kernel
theorem dX1_rewrite_81 : decode cX1_rewrite 81 = .ok (.invokevirtual 225, 3) := by decide +kernel
theorem dX1_rewrite_84 : decode cX1_rewrite 84 = .ok (.aload_n 0, 1) := by decide +kernel
theorem dX1_rewrite_85 : decode cX1_rewrite 85 = .ok (.iload 6, 2) := by decide +kernel
theorem dX1_rewrite_87 : decode cX1_rewrite 87 = .ok (.invokevirtual 228, 3) := by decide +kernel
theorem dX1_rewrite_90 : decode cX1_rewrite 90 = .ok (.istore 4, 2) := by decide +kernel
theorem dX1_rewrite_92 : decode cX1_rewrite 92 = .ok (.aload_n 3, 1) := by decide +kernel
theorem dX1_rewrite_93 : decode cX1_rewrite 93 = .ok (.aload_n 0, 1) := by decide +kernel
theorem dX1_rewrite_94 : decode cX1_rewrite 94 = .ok (.getfield 56, 3) := by decide +kernel
theorem dX1_rewrite_97 : decode cX1_rewrite 97 = .ok (.iload 4, 2) := by decide +kernel
theorem dX1_rewrite_99 : decode cX1_rewrite 99 = .ok (.aload_n 0, 1) := by decide +kernel
theorem dX1_rewrite_100 : decode cX1_rewrite 100 = .ok (.iload 6, 2) := by decide +kernel
theorem dX1_rewrite_102 : decode cX1_rewrite 102 = .ok (.invokevirtual 212, 3) := by decide +kernel
theorem dX1_rewrite_105 : decode cX1_rewrite 105 = .ok (.invokevirtual 231, 3) := by decide +kernel
theorem dX1_rewrite_108 : decode cX1_rewrite 108 = .ok (.iinc 5 1, 3) := by decide +kernel
theorem dX1_rewrite_111 : decode cX1_rewrite 111 = .ok (.goto (-92), 3) := by decide +kernel
theorem dX1_rewrite_114 : decode cX1_rewrite 114 = .ok (.aload_n 3, 1) := by decide +kernel
theorem dX1_rewrite_115 : decode cX1_rewrite 115 = .ok (.aload_n 0, 1) := by decide +kernel
theorem dX1_rewrite_116 : decode cX1_rewrite 116 = .ok (.getfield 56, 3) := by decide +kernel
theorem dX1_rewrite_119 : decode cX1_rewrite 119 = .ok (.iload 4, 2) := by decide +kernel
theorem dX1_rewrite_121 : decode cX1_rewrite 121 = .ok (.aload_n 0, 1) := by decide +kernel
theorem dX1_rewrite_122 : decode cX1_rewrite 122 = .ok (.getfield 56, 3) := by decide +kernel
theorem dX1_rewrite_125 : decode cX1_rewrite 125 = .ok (.getfield 209, 3) := by decide +kernel
theorem dX1_rewrite_128 : decode cX1_rewrite 128 = .ok (.invokevirtual 221, 3) := by decide +kernel
theorem dX1_rewrite_131 : decode cX1_rewrite 131 = .ok (.return_, 1) := by decide +kernel
theorem dX1_has_0 : decode cX1_has 0 = .ok (.iload_n 1, 1) := by decide +kernel
theorem dX1_has_1 : decode cX1_has 1 = .ok (.ifCond .lt 15, 3) := by decide +kernel
theorem dX1_has_4 : decode cX1_has 4 = .ok (.iload_n 1, 1) := by decide +kernel
theorem dX1_has_5 : decode cX1_has 5 = .ok (.aload_n 0, 1) := by decide +kernel
theorem dX1_has_6 : decode cX1_has 6 = .ok (.getfield 66, 3) := by decide +kernel
theorem dX1_has_9 : decode cX1_has 9 = .ok (.if_icmp .ge 7, 3) := by decide +kernel
theorem dX1_has_12 : decode cX1_has 12 = .ok (.iconst 1, 1) := by decide +kernel
theorem dX1_has_13 : decode cX1_has 13 = .ok (.goto 4, 3) := by decide +kernel
theorem dX1_has_16 : decode cX1_has 16 = .ok (.iconst 0, 1) := by decide +kernel
theorem dX1_has_17 : decode cX1_has 17 = .ok (.ireturn, 1) := by decide +kernel
theorem dX1_isMarked_0 : decode cX1_isMarked 0 = .ok (.aload_n 0, 1) := by decide +kernel
theorem dX1_isMarked_1 : decode cX1_isMarked 1 = .ok (.getfield 38, 3) := by decide +kernel
theorem dX1_isMarked_4 : decode cX1_isMarked 4 = .ok (.iload_n 1, 1) := by decide +kernel
theorem dX1_isMarked_5 : decode cX1_isMarked 5 = .ok (.iaload, 1) := by decide +kernel
theorem dX1_isMarked_6 : decode cX1_isMarked 6 = .ok (.iload_n 2, 1) := by decide +kernel
theorem dX1_isMarked_7 : decode cX1_isMarked 7 = .ok (.iand, 1) := by decide +kernel
theorem dX1_isMarked_8 : decode cX1_isMarked 8 = .ok (.ifCond .eq 7, 3) := by decide +kernel
theorem dX1_isMarked_11 : decode cX1_isMarked 11 = .ok (.iconst 1, 1) := by decide +kernel
theorem dX1_isMarked_12 : decode cX1_isMarked 12 = .ok (.goto 4, 3) := by decide +kernel
theorem dX1_isMarked_15 : decode cX1_isMarked 15 = .ok (.iconst 0, 1) := by decide +kernel
theorem dX1_isMarked_16 : decode cX1_isMarked 16 = .ok (.ireturn, 1) := by decide +kernel
theorem dX1_isPicked_0 : decode cX1_isPicked 0 = .ok (.iconst 0, 1) := by decide +kernel
theorem dX1_isPicked_1 : decode cX1_isPicked 1 = .ok (.istore_n 2, 1) := by decide +kernel
theorem dX1_isPicked_2 : decode cX1_isPicked 2 = .ok (.iload_n 2, 1) := by decide +kernel
theorem dX1_isPicked_3 : decode cX1_isPicked 3 = .ok (.aload_n 0, 1) := by decide +kernel
theorem dX1_isPicked_4 : decode cX1_isPicked 4 = .ok (.getfield 99, 3) := by decide +kernel
theorem dX1_isPicked_7 : decode cX1_isPicked 7 = .ok (.if_icmp .ge 21, 3) := by decide +kernel
theorem dX1_isPicked_10 : decode cX1_isPicked 10 = .ok (.aload_n 0, 1) := by decide +kernel
theorem dX1_isPicked_11 : decode cX1_isPicked 11 = .ok (.getfield 47, 3) := by decide +kernel
theorem dX1_isPicked_14 : decode cX1_isPicked 14 = .ok (.iload_n 2, 1) := by decide +kernel
theorem dX1_isPicked_15 : decode cX1_isPicked 15 = .ok (.iaload, 1) := by decide +kernel
theorem dX1_isPicked_16 : decode cX1_isPicked 16 = .ok (.iload_n 1, 1) := by decide +kernel
theorem dX1_isPicked_17 : decode cX1_isPicked 17 = .ok (.if_icmp .ne 5, 3) := by decide +kernel
theorem dX1_isPicked_20 : decode cX1_isPicked 20 = .ok (.iconst 1, 1) := by decide +kernel
theorem dX1_isPicked_21 : decode cX1_isPicked 21 = .ok (.ireturn, 1) := by decide +kernel
theorem dX1_isPicked_22 : decode cX1_isPicked 22 = .ok (.iinc 2 1, 3) := by decide +kernel
theorem dX1_isPicked_25 : decode cX1_isPicked 25 = .ok (.goto (-23), 3) := by decide +kernel
theorem dX1_isPicked_28 : decode cX1_isPicked 28 = .ok (.iconst 0, 1) := by decide +kernel
theorem dX1_isPicked_29 : decode cX1_isPicked 29 = .ok (.ireturn, 1) := by decide +kernel
theorem dX1_beginOf_0 : decode cX1_beginOf 0 = .ok (.aload_n 0, 1) := by decide +kernel
theorem dX1_beginOf_1 : decode cX1_beginOf 1 = .ok (.getfield 12, 3) := by decide +kernel
theorem dX1_beginOf_4 : decode cX1_beginOf 4 = .ok (.getfield 134, 3) := by decide +kernel
theorem dX1_beginOf_7 : decode cX1_beginOf 7 = .ok (.aload_n 0, 1) := by decide +kernel
theorem dX1_beginOf_8 : decode cX1_beginOf 8 = .ok (.getfield 26, 3) := by decide +kernel
theorem dX1_beginOf_11 : decode cX1_beginOf 11 = .ok (.iload_n 1, 1) := by decide +kernel
theorem dX1_beginOf_12 : decode cX1_beginOf 12 = .ok (.iaload, 1) := by decide +kernel
theorem dX1_beginOf_13 : decode cX1_beginOf 13 = .ok (.iaload, 1) := by decide +kernel
theorem dX1_beginOf_14 : decode cX1_beginOf 14 = .ok (.ireturn, 1) := by decide +kernel
theorem dX1_endOf_0 : decode cX1_endOf 0 = .ok (.aload_n 0, 1) := by decide +kernel
theorem dX1_endOf_1 : decode cX1_endOf 1 = .ok (.getfield 12, 3) := by decide +kernel
theorem dX1_endOf_4 : decode cX1_endOf 4 = .ok (.getfield 134, 3) := by decide +kernel
theorem dX1_endOf_7 : decode cX1_endOf 7 = .ok (.aload_n 0, 1) := by decide +kernel
theorem dX1_endOf_8 : decode cX1_endOf 8 = .ok (.getfield 29, 3) := by decide +kernel
theorem dX1_endOf_11 : decode cX1_endOf 11 = .ok (.iload_n 1, 1) := by decide +kernel
theorem dX1_endOf_12 : decode cX1_endOf 12 = .ok (.iaload, 1) := by decide +kernel
theorem dX1_endOf_13 : decode cX1_endOf 13 = .ok (.iaload, 1) := by decide +kernel
theorem dX1_endOf_14 : decode cX1_endOf 14 = .ok (.ireturn, 1) := by decide +kernel
theorem dX1_countMarked_0 : decode cX1_countMarked 0 = .ok (.iconst 0, 1) := by decide +kernel
theorem dX1_countMarked_1 : decode cX1_countMarked 1 = .ok (.istore_n 2, 1) := by decide +kernel
theorem dX1_countMarked_2 : decode cX1_countMarked 2 = .ok (.iconst 0, 1) := by decide +kernel
theorem dX1_countMarked_3 : decode cX1_countMarked 3 = .ok (.istore_n 3, 1) := by decide +kernel
theorem dX1_countMarked_4 : decode cX1_countMarked 4 = .ok (.iload_n 3, 1) := by decide +kernel
theorem dX1_countMarked_5 : decode cX1_countMarked 5 = .ok (.aload_n 0, 1) := by decide +kernel
theorem dX1_countMarked_6 : decode cX1_countMarked 6 = .ok (.getfield 66, 3) := by decide +kernel
theorem dX1_countMarked_9 : decode cX1_countMarked 9 = .ok (.if_icmp .ge 21, 3) := by decide +kernel
theorem dX1_countMarked_12 : decode cX1_countMarked 12 = .ok (.aload_n 0, 1) := by decide +kernel
theorem dX1_countMarked_13 : decode cX1_countMarked 13 = .ok (.iload_n 3, 1) := by decide +kernel
theorem dX1_countMarked_14 : decode cX1_countMarked 14 = .ok (.iload_n 1, 1) := by decide +kernel
theorem dX1_countMarked_15 : decode cX1_countMarked 15 = .ok (.invokevirtual 234, 3) := by decide +kernel
theorem dX1_countMarked_18 : decode cX1_countMarked 18 = .ok (.ifCond .eq 6, 3) := by decide +kernel
theorem dX1_countMarked_21 : decode cX1_countMarked 21 = .ok (.iinc 2 1, 3) := by decide +kernel
theorem dX1_countMarked_24 : decode cX1_countMarked 24 = .ok (.iinc 3 1, 3) := by decide +kernel
theorem dX1_countMarked_27 : decode cX1_countMarked 27 = .ok (.goto (-23), 3) := by decide +kernel
theorem dX1_countMarked_30 : decode cX1_countMarked 30 = .ok (.iload_n 2, 1) := by decide +kernel
theorem dX1_countMarked_31 : decode cX1_countMarked 31 = .ok (.ireturn, 1) := by decide +kernel
theorem dX1_countOfRule_0 : decode cX1_countOfRule 0 = .ok (.iconst 0, 1) := by decide +kernel
theorem dX1_countOfRule_1 : decode cX1_countOfRule 1 = .ok (.istore_n 2, 1) := by decide +kernel
theorem dX1_countOfRule_2 : decode cX1_countOfRule 2 = .ok (.iconst 0, 1) := by decide +kernel
theorem dX1_countOfRule_3 : decode cX1_countOfRule 3 = .ok (.istore_n 3, 1) := by decide +kernel
theorem dX1_countOfRule_4 : decode cX1_countOfRule 4 = .ok (.iload_n 3, 1) := by decide +kernel
theorem dX1_countOfRule_5 : decode cX1_countOfRule 5 = .ok (.aload_n 0, 1) := by decide +kernel
theorem dX1_countOfRule_6 : decode cX1_countOfRule 6 = .ok (.getfield 66, 3) := by decide +kernel
theorem dX1_countOfRule_9 : decode cX1_countOfRule 9 = .ok (.if_icmp .ge 22, 3) := by decide +kernel
theorem dX1_countOfRule_12 : decode cX1_countOfRule 12 = .ok (.aload_n 0, 1) := by decide +kernel
theorem dX1_countOfRule_13 : decode cX1_countOfRule 13 = .ok (.getfield 22, 3) := by decide +kernel
theorem dX1_countOfRule_16 : decode cX1_countOfRule 16 = .ok (.iload_n 3, 1) := by decide +kernel
theorem dX1_countOfRule_17 : decode cX1_countOfRule 17 = .ok (.iaload, 1) := by decide +kernel
theorem dX1_countOfRule_18 : decode cX1_countOfRule 18 = .ok (.iload_n 1, 1) := by decide +kernel
theorem dX1_countOfRule_19 : decode cX1_countOfRule 19 = .ok (.if_icmp .ne 6, 3) := by decide +kernel
theorem dX1_countOfRule_22 : decode cX1_countOfRule 22 = .ok (.iinc 2 1, 3) := by decide +kernel
theorem dX1_countOfRule_25 : decode cX1_countOfRule 25 = .ok (.iinc 3 1, 3) := by decide +kernel
theorem dX1_countOfRule_28 : decode cX1_countOfRule 28 = .ok (.goto (-24), 3) := by decide +kernel
theorem dX1_countOfRule_31 : decode cX1_countOfRule 31 = .ok (.iload_n 2, 1) := by decide +kernel
theorem dX1_countOfRule_32 : decode cX1_countOfRule 32 = .ok (.ireturn, 1) := by decide +kernel
theorem dX1_countPicked_0 : decode cX1_countPicked 0 = .ok (.iconst 0, 1) := by decide +kernel
theorem dX1_countPicked_1 : decode cX1_countPicked 1 = .ok (.istore_n 2, 1) := by decide +kernel
theorem dX1_countPicked_2 : decode cX1_countPicked 2 = .ok (.iconst 0, 1) := by decide +kernel
theorem dX1_countPicked_3 : decode cX1_countPicked 3 = .ok (.istore_n 3, 1) := by decide +kernel
theorem dX1_countPicked_4 : decode cX1_countPicked 4 = .ok (.iload_n 3, 1) := by decide +kernel
theorem dX1_countPicked_5 : decode cX1_countPicked 5 = .ok (.aload_n 0, 1) := by decide +kernel
theorem dX1_countPicked_6 : decode cX1_countPicked 6 = .ok (.getfield 99, 3) := by decide +kernel
theorem dX1_countPicked_9 : decode cX1_countPicked 9 = .ok (.if_icmp .ge 27, 3) := by decide +kernel
theorem dX1_countPicked_12 : decode cX1_countPicked 12 = .ok (.aload_n 0, 1) := by decide +kernel
theorem dX1_countPicked_13 : decode cX1_countPicked 13 = .ok (.getfield 22, 3) := by decide +kernel
theorem dX1_countPicked_16 : decode cX1_countPicked 16 = .ok (.aload_n 0, 1) := by decide +kernel
theorem dX1_countPicked_17 : decode cX1_countPicked 17 = .ok (.getfield 47, 3) := by decide +kernel
theorem dX1_countPicked_20 : decode cX1_countPicked 20 = .ok (.iload_n 3, 1) := by decide +kernel
theorem dX1_countPicked_21 : decode cX1_countPicked 21 = .ok (.iaload, 1) := by decide +kernel
theorem dX1_countPicked_22 : decode cX1_countPicked 22 = .ok (.iaload, 1) := by decide +kernel
theorem dX1_countPicked_23 : decode cX1_countPicked 23 = .ok (.iload_n 1, 1) := by decide +kernel
theorem dX1_countPicked_24 : decode cX1_countPicked 24 = .ok (.if_icmp .ne 6, 3) := by decide +kernel
theorem dX1_countPicked_27 : decode cX1_countPicked 27 = .ok (.iinc 2 1, 3) := by decide +kernel
theorem dX1_countPicked_30 : decode cX1_countPicked 30 = .ok (.iinc 3 1, 3) := by decide +kernel
theorem dX1_countPicked_33 : decode cX1_countPicked 33 = .ok (.goto (-29), 3) := by decide +kernel
theorem dX1_countPicked_36 : decode cX1_countPicked 36 = .ok (.iload_n 2, 1) := by decide +kernel
theorem dX1_countPicked_37 : decode cX1_countPicked 37 = .ok (.ireturn, 1) := by decide +kernel
theorem dX1_pickedRules_0 : decode cX1_pickedRules 0 = .ok (.iconst 0, 1) := by decide +kernel
theorem dX1_pickedRules_1 : decode cX1_pickedRules 1 = .ok (.istore_n 1, 1) := by decide +kernel
theorem dX1_pickedRules_2 : decode cX1_pickedRules 2 = .ok (.iconst 0, 1) := by decide +kernel
theorem dX1_pickedRules_3 : decode cX1_pickedRules 3 = .ok (.istore_n 2, 1) := by decide +kernel
theorem dX1_pickedRules_4 : decode cX1_pickedRules 4 = .ok (.iload_n 2, 1) := by decide +kernel
theorem dX1_pickedRules_5 : decode cX1_pickedRules 5 = .ok (.aload_n 0, 1) := by decide +kernel
theorem dX1_pickedRules_6 : decode cX1_pickedRules 6 = .ok (.getfield 99, 3) := by decide +kernel
theorem dX1_pickedRules_9 : decode cX1_pickedRules 9 = .ok (.if_icmp .ge 25, 3) := by decide +kernel
theorem dX1_pickedRules_12 : decode cX1_pickedRules 12 = .ok (.iload_n 1, 1) := by decide +kernel
theorem dX1_pickedRules_13 : decode cX1_pickedRules 13 = .ok (.iconst 1, 1) := by decide +kernel
theorem dX1_pickedRules_14 : decode cX1_pickedRules 14 = .ok (.aload_n 0, 1) := by decide +kernel
theorem dX1_pickedRules_15 : decode cX1_pickedRules 15 = .ok (.getfield 22, 3) := by decide +kernel
theorem dX1_pickedRules_18 : decode cX1_pickedRules 18 = .ok (.aload_n 0, 1) := by decide +kernel
theorem dX1_pickedRules_19 : decode cX1_pickedRules 19 = .ok (.getfield 47, 3) := by decide +kernel
theorem dX1_pickedRules_22 : decode cX1_pickedRules 22 = .ok (.iload_n 2, 1) := by decide +kernel
theorem dX1_pickedRules_23 : decode cX1_pickedRules 23 = .ok (.iaload, 1) := by decide +kernel
theorem dX1_pickedRules_24 : decode cX1_pickedRules 24 = .ok (.iaload, 1) := by decide +kernel
theorem dX1_pickedRules_25 : decode cX1_pickedRules 25 = .ok (.ishl, 1) := by decide +kernel
theorem dX1_pickedRules_26 : decode cX1_pickedRules 26 = .ok (.ior, 1) := by decide +kernel
theorem dX1_pickedRules_27 : decode cX1_pickedRules 27 = .ok (.istore_n 1, 1) := by decide +kernel
theorem dX1_pickedRules_28 : decode cX1_pickedRules 28 = .ok (.iinc 2 1, 3) := by decide +kernel
theorem dX1_pickedRules_31 : decode cX1_pickedRules 31 = .ok (.goto (-27), 3) := by decide +kernel
theorem dX1_pickedRules_34 : decode cX1_pickedRules 34 = .ok (.iload_n 1, 1) := by decide +kernel
theorem dX1_pickedRules_35 : decode cX1_pickedRules 35 = .ok (.ireturn, 1) := by decide +kernel
theorem dX1_pickedValue_0 : decode cX1_pickedValue 0 = .ok (.iconst 0, 1) := by decide +kernel
theorem dX1_pickedValue_1 : decode cX1_pickedValue 1 = .ok (.istore_n 1, 1) := by decide +kernel
theorem dX1_pickedValue_2 : decode cX1_pickedValue 2 = .ok (.iconst 0, 1) := by decide +kernel
theorem dX1_pickedValue_3 : decode cX1_pickedValue 3 = .ok (.istore_n 2, 1) := by decide +kernel
theorem dX1_pickedValue_4 : decode cX1_pickedValue 4 = .ok (.iload_n 2, 1) := by decide +kernel
theorem dX1_pickedValue_5 : decode cX1_pickedValue 5 = .ok (.aload_n 0, 1) := by decide +kernel
theorem dX1_pickedValue_6 : decode cX1_pickedValue 6 = .ok (.getfield 99, 3) := by decide +kernel
theorem dX1_pickedValue_9 : decode cX1_pickedValue 9 = .ok (.if_icmp .ge 23, 3) := by decide +kernel
theorem dX1_pickedValue_12 : decode cX1_pickedValue 12 = .ok (.iload_n 1, 1) := by decide +kernel
theorem dX1_pickedValue_13 : decode cX1_pickedValue 13 = .ok (.aload_n 0, 1) := by decide +kernel
