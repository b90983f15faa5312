theorem dX5_readQuote_7 : decode cX5_readQuote 7 = .ok (.putfield 40, 3) := by decide +kernel
theorem dX5_readQuote_10 : decode cX5_readQuote 10 = .ok (.aload_n 0, 1) := by decide +kernel
theorem dX5_readQuote_11 : decode cX5_readQuote 11 = .ok (.getfield 40, 3) := by decide +kernel
theorem dX5_readQuote_14 : decode cX5_readQuote 14 = .ok (.aload_n 0, 1) := by decide +kernel
theorem dX5_readQuote_15 : decode cX5_readQuote 15 = .ok (.getfield 32, 3) := by decide +kernel
theorem dX5_readQuote_18 : decode cX5_readQuote 18 = .ok (.if_icmp .ge 43, 3) := by decide +kernel
theorem dX5_readQuote_21 : decode cX5_readQuote 21 = .ok (.aload_n 0, 1) := by decide +kernel
theorem dX5_readQuote_22 : decode cX5_readQuote 22 = .ok (.invokevirtual 68, 3) := by decide +kernel
theorem dX5_readQuote_25 : decode cX5_readQuote 25 = .ok (.bipush 32, 2) := by decide +kernel
theorem dX5_readQuote_27 : decode cX5_readQuote 27 = .ok (.if_icmp .lt 34, 3) := by decide +kernel
theorem dX5_readQuote_30 : decode cX5_readQuote 30 = .ok (.aload_n 0, 1) := by decide +kernel
theorem dX5_readQuote_31 : decode cX5_readQuote 31 = .ok (.invokevirtual 68, 3) := by decide +kernel
theorem dX5_readQuote_34 : decode cX5_readQuote 34 = .ok (.bipush 126, 2) := by decide +kernel
theorem dX5_readQuote_36 : decode cX5_readQuote 36 = .ok (.if_icmp .gt 25, 3) := by decide +kernel
theorem dX5_readQuote_39 : decode cX5_readQuote 39 = .ok (.aload_n 0, 1) := by decide +kernel
theorem dX5_readQuote_40 : decode cX5_readQuote 40 = .ok (.invokevirtual 68, 3) := by decide +kernel
theorem dX5_readQuote_43 : decode cX5_readQuote 43 = .ok (.bipush 39, 2) := by decide +kernel
theorem dX5_readQuote_45 : decode cX5_readQuote 45 = .ok (.if_icmp .eq 16, 3) := by decide +kernel
theorem dX5_readQuote_48 : decode cX5_readQuote 48 = .ok (.aload_n 0, 1) := by decide +kernel
theorem dX5_readQuote_49 : decode cX5_readQuote 49 = .ok (.dup, 1) := by decide +kernel
theorem dX5_readQuote_50 : decode cX5_readQuote 50 = .ok (.getfield 40, 3) := by decide +kernel
theorem dX5_readQuote_53 : decode cX5_readQuote 53 = .ok (.iconst 1, 1) := by decide +kernel
theorem dX5_readQuote_54 : decode cX5_readQuote 54 = .ok (.iadd, 1) := by decide +kernel
theorem dX5_readQuote_55 : decode cX5_readQuote 55 = .ok (.putfield 40, 3) := by decide +kernel
theorem dX5_readQuote_58 : decode cX5_readQuote 58 = .ok (.goto (-48), 3) := by decide +kernel
theorem dX5_readQuote_61 : decode cX5_readQuote 61 = .ok (.aload_n 0, 1) := by decide +kernel
theorem dX5_readQuote_62 : decode cX5_readQuote 62 = .ok (.invokevirtual 68, 3) := by decide +kernel
theorem dX5_readQuote_65 : decode cX5_readQuote 65 = .ok (.bipush 39, 2) := by decide +kernel
theorem dX5_readQuote_67 : decode cX5_readQuote 67 = .ok (.if_icmp .eq 13, 3) := by decide +kernel
theorem dX5_readQuote_70 : decode cX5_readQuote 70 = .ok (.aload_n 0, 1) := by decide +kernel
theorem dX5_readQuote_71 : decode cX5_readQuote 71 = .ok (.iconst 1, 1) := by decide +kernel
theorem dX5_readQuote_72 : decode cX5_readQuote 72 = .ok (.aload_n 0, 1) := by decide +kernel
theorem dX5_readQuote_73 : decode cX5_readQuote 73 = .ok (.getfield 40, 3) := by decide +kernel
theorem dX5_readQuote_76 : decode cX5_readQuote 76 = .ok (.invokevirtual 76, 3) := by decide +kernel
theorem dX5_readQuote_79 : decode cX5_readQuote 79 = .ok (.ireturn, 1) := by decide +kernel
theorem dX5_readQuote_80 : decode cX5_readQuote 80 = .ok (.aload_n 0, 1) := by decide +kernel
theorem dX5_readQuote_81 : decode cX5_readQuote 81 = .ok (.dup, 1) := by decide +kernel
theorem dX5_readQuote_82 : decode cX5_readQuote 82 = .ok (.getfield 40, 3) := by decide +kernel
theorem dX5_readQuote_85 : decode cX5_readQuote 85 = .ok (.iconst 1, 1) := by decide +kernel
theorem dX5_readQuote_86 : decode cX5_readQuote 86 = .ok (.iadd, 1) := by decide +kernel
theorem dX5_readQuote_87 : decode cX5_readQuote 87 = .ok (.putfield 40, 3) := by decide +kernel
theorem dX5_readQuote_90 : decode cX5_readQuote 90 = .ok (.iconst 1, 1) := by decide +kernel
theorem dX5_readQuote_91 : decode cX5_readQuote 91 = .ok (.ireturn, 1) := by decide +kernel
theorem dX5_isOneToken_0 : decode cX5_isOneToken 0 = .ok (.iload_n 1, 1) := by decide +kernel
theorem dX5_isOneToken_1 : decode cX5_isOneToken 1 = .ok (.ifCond .lt 16, 3) := by decide +kernel
theorem dX5_isOneToken_4 : decode cX5_isOneToken 4 = .ok (.iload_n 1, 1) := by decide +kernel
theorem dX5_isOneToken_5 : decode cX5_isOneToken 5 = .ok (.iload_n 2, 1) := by decide +kernel
theorem dX5_isOneToken_6 : decode cX5_isOneToken 6 = .ok (.if_icmp .ge 11, 3) := by decide +kernel
theorem dX5_isOneToken_9 : decode cX5_isOneToken 9 = .ok (.iload_n 2, 1) := by decide +kernel
theorem dX5_isOneToken_10 : decode cX5_isOneToken 10 = .ok (.aload_n 0, 1) := by decide +kernel
theorem dX5_isOneToken_11 : decode cX5_isOneToken 11 = .ok (.getfield 32, 3) := by decide +kernel
theorem dX5_isOneToken_14 : decode cX5_isOneToken 14 = .ok (.if_icmp .le 5, 3) := by decide +kernel
theorem dX5_isOneToken_17 : decode cX5_isOneToken 17 = .ok (.iconst 0, 1) := by decide +kernel
theorem dX5_isOneToken_18 : decode cX5_isOneToken 18 = .ok (.ireturn, 1) := by decide +kernel
theorem dX5_isOneToken_19 : decode cX5_isOneToken 19 = .ok (.aload_n 0, 1) := by decide +kernel
theorem dX5_isOneToken_20 : decode cX5_isOneToken 20 = .ok (.getfield 15, 3) := by decide +kernel
theorem dX5_isOneToken_23 : decode cX5_isOneToken 23 = .ok (.iload_n 1, 1) := by decide +kernel
theorem dX5_isOneToken_24 : decode cX5_isOneToken 24 = .ok (.baload, 1) := by decide +kernel
theorem dX5_isOneToken_25 : decode cX5_isOneToken 25 = .ok (.invokestatic 72, 3) := by decide +kernel
theorem dX5_isOneToken_28 : decode cX5_isOneToken 28 = .ok (.istore_n 3, 1) := by decide +kernel
theorem dX5_isOneToken_29 : decode cX5_isOneToken 29 = .ok (.iload_n 3, 1) := by decide +kernel
theorem dX5_isOneToken_30 : decode cX5_isOneToken 30 = .ok (.iconst 3, 1) := by decide +kernel
theorem dX5_isOneToken_31 : decode cX5_isOneToken 31 = .ok (.if_icmp .ne 16, 3) := by decide +kernel
theorem dX5_isOneToken_34 : decode cX5_isOneToken 34 = .ok (.iload_n 2, 1) := by decide +kernel
theorem dX5_isOneToken_35 : decode cX5_isOneToken 35 = .ok (.iload_n 1, 1) := by decide +kernel
theorem dX5_isOneToken_36 : decode cX5_isOneToken 36 = .ok (.isub, 1) := by decide +kernel
theorem dX5_isOneToken_37 : decode cX5_isOneToken 37 = .ok (.iconst 1, 1) := by decide +kernel
theorem dX5_isOneToken_38 : decode cX5_isOneToken 38 = .ok (.if_icmp .ne 7, 3) := by decide +kernel
theorem dX5_isOneToken_41 : decode cX5_isOneToken 41 = .ok (.iconst 1, 1) := by decide +kernel
theorem dX5_isOneToken_42 : decode cX5_isOneToken 42 = .ok (.goto 4, 3) := by decide +kernel
theorem dX5_isOneToken_45 : decode cX5_isOneToken 45 = .ok (.iconst 0, 1) := by decide +kernel
theorem dX5_isOneToken_46 : decode cX5_isOneToken 46 = .ok (.ireturn, 1) := by decide +kernel
theorem dX5_isOneToken_47 : decode cX5_isOneToken 47 = .ok (.iload_n 1, 1) := by decide +kernel
theorem dX5_isOneToken_48 : decode cX5_isOneToken 48 = .ok (.istore 4, 2) := by decide +kernel
theorem dX5_isOneToken_50 : decode cX5_isOneToken 50 = .ok (.iload 4, 2) := by decide +kernel
theorem dX5_isOneToken_52 : decode cX5_isOneToken 52 = .ok (.iload_n 2, 1) := by decide +kernel
theorem dX5_isOneToken_53 : decode cX5_isOneToken 53 = .ok (.if_icmp .ge 25, 3) := by decide +kernel
theorem dX5_isOneToken_56 : decode cX5_isOneToken 56 = .ok (.aload_n 0, 1) := by decide +kernel
theorem dX5_isOneToken_57 : decode cX5_isOneToken 57 = .ok (.getfield 15, 3) := by decide +kernel
theorem dX5_isOneToken_60 : decode cX5_isOneToken 60 = .ok (.iload 4, 2) := by decide +kernel
theorem dX5_isOneToken_62 : decode cX5_isOneToken 62 = .ok (.baload, 1) := by decide +kernel
theorem dX5_isOneToken_63 : decode cX5_isOneToken 63 = .ok (.invokestatic 72, 3) := by decide +kernel
theorem dX5_isOneToken_66 : decode cX5_isOneToken 66 = .ok (.iload_n 3, 1) := by decide +kernel
theorem dX5_isOneToken_67 : decode cX5_isOneToken 67 = .ok (.if_icmp .eq 5, 3) := by decide +kernel
theorem dX5_isOneToken_70 : decode cX5_isOneToken 70 = .ok (.iconst 0, 1) := by decide +kernel
theorem dX5_isOneToken_71 : decode cX5_isOneToken 71 = .ok (.ireturn, 1) := by decide +kernel
theorem dX5_isOneToken_72 : decode cX5_isOneToken 72 = .ok (.iinc 4 1, 3) := by decide +kernel
theorem dX5_isOneToken_75 : decode cX5_isOneToken 75 = .ok (.goto (-25), 3) := by decide +kernel
theorem dX5_isOneToken_78 : decode cX5_isOneToken 78 = .ok (.iconst 1, 1) := by decide +kernel
theorem dX5_isOneToken_79 : decode cX5_isOneToken 79 = .ok (.ireturn, 1) := by decide +kernel
theorem dX5_peek_0 : decode cX5_peek 0 = .ok (.aload_n 0, 1) := by decide +kernel
theorem dX5_peek_1 : decode cX5_peek 1 = .ok (.getfield 40, 3) := by decide +kernel
theorem dX5_peek_4 : decode cX5_peek 4 = .ok (.ifCond .lt 30, 3) := by decide +kernel
theorem dX5_peek_7 : decode cX5_peek 7 = .ok (.aload_n 0, 1) := by decide +kernel
theorem dX5_peek_8 : decode cX5_peek 8 = .ok (.getfield 40, 3) := by decide +kernel
theorem dX5_peek_11 : decode cX5_peek 11 = .ok (.aload_n 0, 1) := by decide +kernel
theorem dX5_peek_12 : decode cX5_peek 12 = .ok (.getfield 32, 3) := by decide +kernel
theorem dX5_peek_15 : decode cX5_peek 15 = .ok (.if_icmp .ge 19, 3) := by decide +kernel
theorem dX5_peek_18 : decode cX5_peek 18 = .ok (.aload_n 0, 1) := by decide +kernel
theorem dX5_peek_19 : decode cX5_peek 19 = .ok (.getfield 15, 3) := by decide +kernel
theorem dX5_peek_22 : decode cX5_peek 22 = .ok (.aload_n 0, 1) := by decide +kernel
theorem dX5_peek_23 : decode cX5_peek 23 = .ok (.getfield 40, 3) := by decide +kernel
theorem dX5_peek_26 : decode cX5_peek 26 = .ok (.baload, 1) := by decide +kernel
theorem dX5_peek_27 : decode cX5_peek 27 = .ok (.sipush 255, 3) := by decide +kernel
theorem dX5_peek_30 : decode cX5_peek 30 = .ok (.iand, 1) := by decide +kernel
theorem dX5_peek_31 : decode cX5_peek 31 = .ok (.goto 4, 3) := by decide +kernel
theorem dX5_peek_34 : decode cX5_peek 34 = .ok (.iconst (-1), 1) := by decide +kernel
theorem dX5_peek_35 : decode cX5_peek 35 = .ok (.ireturn, 1) := by decide +kernel
theorem dX5_fail_0 : decode cX5_fail 0 = .ok (.aload_n 0, 1) := by decide +kernel
theorem dX5_fail_1 : decode cX5_fail 1 = .ok (.iload_n 1, 1) := by decide +kernel
theorem dX5_fail_2 : decode cX5_fail 2 = .ok (.putfield 43, 3) := by decide +kernel
theorem dX5_fail_5 : decode cX5_fail 5 = .ok (.aload_n 0, 1) := by decide +kernel
theorem dX5_fail_6 : decode cX5_fail 6 = .ok (.iload_n 2, 1) := by decide +kernel
theorem dX5_fail_7 : decode cX5_fail 7 = .ok (.putfield 9, 3) := by decide +kernel
theorem dX5_fail_10 : decode cX5_fail 10 = .ok (.iconst 0, 1) := by decide +kernel
theorem dX5_fail_11 : decode cX5_fail 11 = .ok (.ireturn, 1) := by decide +kernel
theorem dX5_isNamedSort_0 : decode cX5_isNamedSort 0 = .ok (.iload_n 0, 1) := by decide +kernel
theorem dX5_isNamedSort_1 : decode cX5_isNamedSort 1 = .ok (.bipush 119, 2) := by decide +kernel
theorem dX5_isNamedSort_3 : decode cX5_isNamedSort 3 = .ok (.if_icmp .eq 15, 3) := by decide +kernel
theorem dX5_isNamedSort_6 : decode cX5_isNamedSort 6 = .ok (.iload_n 0, 1) := by decide +kernel
theorem dX5_isNamedSort_7 : decode cX5_isNamedSort 7 = .ok (.bipush 110, 2) := by decide +kernel
theorem dX5_isNamedSort_9 : decode cX5_isNamedSort 9 = .ok (.if_icmp .eq 9, 3) := by decide +kernel
theorem dX5_isNamedSort_12 : decode cX5_isNamedSort 12 = .ok (.iload_n 0, 1) := by decide +kernel
theorem dX5_isNamedSort_13 : decode cX5_isNamedSort 13 = .ok (.bipush 115, 2) := by decide +kernel
theorem dX5_isNamedSort_15 : decode cX5_isNamedSort 15 = .ok (.if_icmp .ne 7, 3) := by decide +kernel
theorem dX5_isNamedSort_18 : decode cX5_isNamedSort 18 = .ok (.iconst 1, 1) := by decide +kernel
theorem dX5_isNamedSort_19 : decode cX5_isNamedSort 19 = .ok (.goto 4, 3) := by decide +kernel
theorem dX5_isNamedSort_22 : decode cX5_isNamedSort 22 = .ok (.iconst 0, 1) := by decide +kernel
theorem dX5_isNamedSort_23 : decode cX5_isNamedSort 23 = .ok (.ireturn, 1) := by decide +kernel
theorem dX5_namedSort_0 : decode cX5_namedSort 0 = .ok (.iload_n 0, 1) := by decide +kernel
theorem dX5_namedSort_1 : decode cX5_namedSort 1 = .ok (.bipush 119, 2) := by decide +kernel
theorem dX5_namedSort_3 : decode cX5_namedSort 3 = .ok (.if_icmp .ne 5, 3) := by decide +kernel
theorem dX5_namedSort_6 : decode cX5_namedSort 6 = .ok (.iconst 0, 1) := by decide +kernel
theorem dX5_namedSort_7 : decode cX5_namedSort 7 = .ok (.ireturn, 1) := by decide +kernel
theorem dX5_namedSort_8 : decode cX5_namedSort 8 = .ok (.iload_n 0, 1) := by decide +kernel
theorem dX5_namedSort_9 : decode cX5_namedSort 9 = .ok (.bipush 110, 2) := by decide +kernel
theorem dX5_namedSort_11 : decode cX5_namedSort 11 = .ok (.if_icmp .ne 7, 3) := by decide +kernel
theorem dX5_namedSort_14 : decode cX5_namedSort 14 = .ok (.iconst 1, 1) := by decide +kernel
theorem dX5_namedSort_15 : decode cX5_namedSort 15 = .ok (.goto 4, 3) := by decide +kernel
theorem dX5_namedSort_18 : decode cX5_namedSort 18 = .ok (.iconst 3, 1) := by decide +kernel
theorem dX5_namedSort_19 : decode cX5_namedSort 19 = .ok (.ireturn, 1) := by decide +kernel
theorem dX5_partKindOf_0 : decode cX5_partKindOf 0 = .ok (.iload_n 0, 1) := by decide +kernel
theorem dX5_partKindOf_1 : decode cX5_partKindOf 1 = .ok (.lookupswitch 51 #[(39, 49), (43, 43), (45, 45), (126, 47)], 43) := by decide +kernel
theorem dX5_partKindOf_44 : decode cX5_partKindOf 44 = .ok (.iconst 1, 1) := by decide +kernel
theorem dX5_partKindOf_45 : decode cX5_partKindOf 45 = .ok (.ireturn, 1) := by decide +kernel
theorem dX5_partKindOf_46 : decode cX5_partKindOf 46 = .ok (.iconst 2, 1) := by decide +kernel
theorem dX5_partKindOf_47 : decode cX5_partKindOf 47 = .ok (.ireturn, 1) := by decide +kernel
theorem dX5_partKindOf_48 : decode cX5_partKindOf 48 = .ok (.iconst 3, 1) := by decide +kernel
theorem dX5_partKindOf_49 : decode cX5_partKindOf 49 = .ok (.ireturn, 1) := by decide +kernel
theorem dX5_partKindOf_50 : decode cX5_partKindOf 50 = .ok (.iconst 4, 1) := by decide +kernel
theorem dX5_partKindOf_51 : decode cX5_partKindOf 51 = .ok (.ireturn, 1) := by decide +kernel
theorem dX5_partKindOf_52 : decode cX5_partKindOf 52 = .ok (.iconst 0, 1) := by decide +kernel
theorem dX5_partKindOf_53 : decode cX5_partKindOf 53 = .ok (.ireturn, 1) := by decide +kernel
theorem dX6_init_0 : decode cX6_init 0 = .ok (.aload_n 0, 1) := by decide +kernel
theorem dX6_init_1 : decode cX6_init 1 = .ok (.invokespecial 3, 3) := by decide +kernel
theorem dX6_init_4 : decode cX6_init 4 = .ok (.aload_n 0, 1) := by decide +kernel
theorem dX6_init_5 : decode cX6_init 5 = .ok (.sipush 300, 3) := by decide +kernel
theorem dX6_init_8 : decode cX6_init 8 = .ok (.newarray .byte, 2) := by decide +kernel
theorem dX6_init_10 : decode cX6_init 10 = .ok (.putfield 9, 3) := by decide +kernel
theorem dX6_init_13 : decode cX6_init 13 = .ok (.aload_n 0, 1) := by decide +kernel
theorem dX6_init_14 : decode cX6_init 14 = .ok (.bipush 6, 2) := by decide +kernel
theorem dX6_init_16 : decode cX6_init 16 = .ok (.newarray .int, 2) := by decide +kernel
theorem dX6_init_18 : decode cX6_init 18 = .ok (.putfield 15, 3) := by decide +kernel
theorem dX6_init_21 : decode cX6_init 21 = .ok (.aload_n 0, 1) := by decide +kernel
theorem dX6_init_22 : decode cX6_init 22 = .ok (.bipush 6, 2) := by decide +kernel
theorem dX6_init_24 : decode cX6_init 24 = .ok (.newarray .int, 2) := by decide +kernel
theorem dX6_init_26 : decode cX6_init 26 = .ok (.putfield 19, 3) := by decide +kernel
theorem dX6_init_29 : decode cX6_init 29 = .ok (.aload_n 0, 1) := by decide +kernel
theorem dX6_init_30 : decode cX6_init 30 = .ok (.bipush 6, 2) := by decide +kernel
theorem dX6_init_32 : decode cX6_init 32 = .ok (.newarray .int, 2) := by decide +kernel
theorem dX6_init_34 : decode cX6_init 34 = .ok (.putfield 22, 3) := by decide +kernel
theorem dX6_init_37 : decode cX6_init 37 = .ok (.aload_n 0, 1) := by decide +kernel
theorem dX6_init_38 : decode cX6_init 38 = .ok (.bipush 6, 2) := by decide +kernel
theorem dX6_init_40 : decode cX6_init 40 = .ok (.newarray .int, 2) := by decide +kernel
theorem dX6_init_42 : decode cX6_init 42 = .ok (.putfield 25, 3) := by decide +kernel
theorem dX6_init_45 : decode cX6_init 45 = .ok (.aload_n 0, 1) := by decide +kernel
theorem dX6_init_46 : decode cX6_init 46 = .ok (.bipush 36, 2) := by decide +kernel
theorem dX6_init_48 : decode cX6_init 48 = .ok (.newarray .int, 2) := by decide +kernel
theorem dX6_init_50 : decode cX6_init 50 = .ok (.putfield 28, 3) := by decide +kernel
theorem dX6_init_53 : decode cX6_init 53 = .ok (.aload_n 0, 1) := by decide +kernel
theorem dX6_init_54 : decode cX6_init 54 = .ok (.bipush 36, 2) := by decide +kernel
theorem dX6_init_56 : decode cX6_init 56 = .ok (.newarray .int, 2) := by decide +kernel
theorem dX6_init_58 : decode cX6_init 58 = .ok (.putfield 31, 3) := by decide +kernel
theorem dX6_init_61 : decode cX6_init 61 = .ok (.aload_n 0, 1) := by decide +kernel
theorem dX6_init_62 : decode cX6_init 62 = .ok (.bipush 36, 2) := by decide +kernel
theorem dX6_init_64 : decode cX6_init 64 = .ok (.newarray .int, 2) := by decide +kernel
theorem dX6_init_66 : decode cX6_init 66 = .ok (.putfield 34, 3) := by decide +kernel
theorem dX6_init_69 : decode cX6_init 69 = .ok (.aload_n 0, 1) := by decide +kernel
theorem dX6_init_70 : decode cX6_init 70 = .ok (.bipush 36, 2) := by decide +kernel
theorem dX6_init_72 : decode cX6_init 72 = .ok (.newarray .int, 2) := by decide +kernel
theorem dX6_init_74 : decode cX6_init 74 = .ok (.putfield 37, 3) := by decide +kernel
theorem dX6_init_77 : decode cX6_init 77 = .ok (.aload_n 0, 1) := by decide +kernel
theorem dX6_init_78 : decode cX6_init 78 = .ok (.bipush 36, 2) := by decide +kernel
theorem dX6_init_80 : decode cX6_init 80 = .ok (.newarray .int, 2) := by decide +kernel
theorem dX6_init_82 : decode cX6_init 82 = .ok (.putfield 40, 3) := by decide +kernel
theorem dX6_init_85 : decode cX6_init 85 = .ok (.aload_n 0, 1) := by decide +kernel
theorem dX6_init_86 : decode cX6_init 86 = .ok (.bipush 36, 2) := by decide +kernel
theorem dX6_init_88 : decode cX6_init 88 = .ok (.newarray .int, 2) := by decide +kernel
theorem dX6_init_90 : decode cX6_init 90 = .ok (.putfield 43, 3) := by decide +kernel
theorem dX6_init_93 : decode cX6_init 93 = .ok (.aload_n 0, 1) := by decide +kernel
theorem dX6_init_94 : decode cX6_init 94 = .ok (.bipush 36, 2) := by decide +kernel
theorem dX6_init_96 : decode cX6_init 96 = .ok (.newarray .int, 2) := by decide +kernel
theorem dX6_init_98 : decode cX6_init 98 = .ok (.putfield 46, 3) := by decide +kernel
theorem dX6_init_101 : decode cX6_init 101 = .ok (.return_, 1) := by decide +kernel
theorem dX6_elementNamed_0 : decode cX6_elementNamed 0 = .ok (.iload_n 1, 1) := by decide +kernel
theorem dX6_elementNamed_1 : decode cX6_elementNamed 1 = .ok (.ifCond .lt 9, 3) := by decide +kernel
theorem dX6_elementNamed_4 : decode cX6_elementNamed 4 = .ok (.iload_n 1, 1) := by decide +kernel
theorem dX6_elementNamed_5 : decode cX6_elementNamed 5 = .ok (.bipush 6, 2) := by decide +kernel
theorem dX6_elementNamed_7 : decode cX6_elementNamed 7 = .ok (.if_icmp .lt 5, 3) := by decide +kernel
theorem dX6_elementNamed_10 : decode cX6_elementNamed 10 = .ok (.iconst (-1), 1) := by decide +kernel
theorem dX6_elementNamed_11 : decode cX6_elementNamed 11 = .ok (.ireturn, 1) := by decide +kernel
theorem dX6_elementNamed_12 : decode cX6_elementNamed 12 = .ok (.iconst 0, 1) := by decide +kernel
theorem dX6_elementNamed_13 : decode cX6_elementNamed 13 = .ok (.istore_n 3, 1) := by decide +kernel
theorem dX6_elementNamed_14 : decode cX6_elementNamed 14 = .ok (.iload_n 3, 1) := by decide +kernel
theorem dX6_elementNamed_15 : decode cX6_elementNamed 15 = .ok (.aload_n 0, 1) := by decide +kernel
theorem dX6_elementNamed_16 : decode cX6_elementNamed 16 = .ok (.getfield 19, 3) := by decide +kernel
theorem dX6_elementNamed_19 : decode cX6_elementNamed 19 = .ok (.iload_n 1, 1) := by decide +kernel
theorem dX6_elementNamed_20 : decode cX6_elementNamed 20 = .ok (.iaload, 1) := by decide +kernel
theorem dX6_elementNamed_21 : decode cX6_elementNamed 21 = .ok (.if_icmp .ge 32, 3) := by decide +kernel
theorem dX6_elementNamed_24 : decode cX6_elementNamed 24 = .ok (.iload_n 3, 1) := by decide +kernel
theorem dX6_elementNamed_25 : decode cX6_elementNamed 25 = .ok (.bipush 6, 2) := by decide +kernel
theorem dX6_elementNamed_27 : decode cX6_elementNamed 27 = .ok (.if_icmp .ge 26, 3) := by decide +kernel
theorem dX6_elementNamed_30 : decode cX6_elementNamed 30 = .ok (.aload_n 0, 1) := by decide +kernel
theorem dX6_elementNamed_31 : decode cX6_elementNamed 31 = .ok (.getfield 31, 3) := by decide +kernel
theorem dX6_elementNamed_34 : decode cX6_elementNamed 34 = .ok (.iload_n 1, 1) := by decide +kernel
theorem dX6_elementNamed_35 : decode cX6_elementNamed 35 = .ok (.bipush 6, 2) := by decide +kernel
theorem dX6_elementNamed_37 : decode cX6_elementNamed 37 = .ok (.imul, 1) := by decide +kernel
theorem dX6_elementNamed_38 : decode cX6_elementNamed 38 = .ok (.iload_n 3, 1) := by decide +kernel
theorem dX6_elementNamed_39 : decode cX6_elementNamed 39 = .ok (.iadd, 1) := by decide +kernel
theorem dX6_elementNamed_40 : decode cX6_elementNamed 40 = .ok (.iaload, 1) := by decide +kernel
theorem dX6_elementNamed_41 : decode cX6_elementNamed 41 = .ok (.iload_n 2, 1) := by decide +kernel
theorem dX6_elementNamed_42 : decode cX6_elementNamed 42 = .ok (.if_icmp .ne 5, 3) := by decide +kernel
theorem dX6_elementNamed_45 : decode cX6_elementNamed 45 = .ok (.iload_n 3, 1) := by decide +kernel
theorem dX6_elementNamed_46 : decode cX6_elementNamed 46 = .ok (.ireturn, 1) := by decide +kernel
theorem dX6_elementNamed_47 : decode cX6_elementNamed 47 = .ok (.iinc 3 1, 3) := by decide +kernel
theorem dX6_elementNamed_50 : decode cX6_elementNamed 50 = .ok (.goto (-36), 3) := by decide +kernel
theorem dX6_elementNamed_53 : decode cX6_elementNamed 53 = .ok (.iconst (-1), 1) := by decide +kernel
theorem dX6_elementNamed_54 : decode cX6_elementNamed 54 = .ok (.ireturn, 1) := by decide +kernel
theorem dX6_putInOrder_0 : decode cX6_putInOrder 0 = .ok (.iconst 0, 1) := by decide +kernel
theorem dX6_putInOrder_1 : decode cX6_putInOrder 1 = .ok (.istore_n 1, 1) := by decide +kernel
theorem dX6_putInOrder_2 : decode cX6_putInOrder 2 = .ok (.iload_n 1, 1) := by decide +kernel
theorem dX6_putInOrder_3 : decode cX6_putInOrder 3 = .ok (.aload_n 0, 1) := by decide +kernel
theorem dX6_putInOrder_4 : decode cX6_putInOrder 4 = .ok (.getfield 49, 3) := by decide +kernel
theorem dX6_putInOrder_7 : decode cX6_putInOrder 7 = .ok (.if_icmp .ge 72, 3) := by decide +kernel
theorem dX6_putInOrder_10 : decode cX6_putInOrder 10 = .ok (.iconst 0, 1) := by decide +kernel
theorem dX6_putInOrder_11 : decode cX6_putInOrder 11 = .ok (.istore_n 2, 1) := by decide +kernel
theorem dX6_putInOrder_12 : decode cX6_putInOrder 12 = .ok (.iconst 0, 1) := by decide +kernel
theorem dX6_putInOrder_13 : decode cX6_putInOrder 13 = .ok (.istore_n 3, 1) := by decide +kernel
theorem dX6_putInOrder_14 : decode cX6_putInOrder 14 = .ok (.iload_n 3, 1) := by decide +kernel
theorem dX6_putInOrder_15 : decode cX6_putInOrder 15 = .ok (.aload_n 0, 1) := by decide +kernel
theorem dX6_putInOrder_16 : decode cX6_putInOrder 16 = .ok (.getfield 49, 3) := by decide +kernel
theorem dX6_putInOrder_19 : decode cX6_putInOrder 19 = .ok (.if_icmp .ge 47, 3) := by decide +kernel
theorem dX6_putInOrder_22 : decode cX6_putInOrder 22 = .ok (.aload_n 0, 1) := by decide +kernel
theorem dX6_putInOrder_23 : decode cX6_putInOrder 23 = .ok (.getfield 19, 3) := by decide +kernel
theorem dX6_putInOrder_26 : decode cX6_putInOrder 26 = .ok (.iload_n 3, 1) := by decide +kernel
theorem dX6_putInOrder_27 : decode cX6_putInOrder 27 = .ok (.iaload, 1) := by decide +kernel
theorem dX6_putInOrder_28 : decode cX6_putInOrder 28 = .ok (.aload_n 0, 1) := by decide +kernel
theorem dX6_putInOrder_29 : decode cX6_putInOrder 29 = .ok (.getfield 19, 3) := by decide +kernel
theorem dX6_putInOrder_32 : decode cX6_putInOrder 32 = .ok (.iload_n 1, 1) := by decide +kernel
theorem dX6_putInOrder_33 : decode cX6_putInOrder 33 = .ok (.iaload, 1) := by decide +kernel
theorem dX6_putInOrder_34 : decode cX6_putInOrder 34 = .ok (.if_icmp .lt 23, 3) := by decide +kernel
theorem dX6_putInOrder_37 : decode cX6_putInOrder 37 = .ok (.aload_n 0, 1) := by decide +kernel
theorem dX6_putInOrder_38 : decode cX6_putInOrder 38 = .ok (.getfield 19, 3) := by decide +kernel
theorem dX6_putInOrder_41 : decode cX6_putInOrder 41 = .ok (.iload_n 3, 1) := by decide +kernel
theorem dX6_putInOrder_42 : decode cX6_putInOrder 42 = .ok (.iaload, 1) := by decide +kernel
theorem dX6_putInOrder_43 : decode cX6_putInOrder 43 = .ok (.aload_n 0, 1) := by decide +kernel
theorem dX6_putInOrder_44 : decode cX6_putInOrder 44 = .ok (.getfield 19, 3) := by decide +kernel
theorem dX6_putInOrder_47 : decode cX6_putInOrder 47 = .ok (.iload_n 1, 1) := by decide +kernel
theorem dX6_putInOrder_48 : decode cX6_putInOrder 48 = .ok (.iaload, 1) := by decide +kernel
theorem dX6_putInOrder_49 : decode cX6_putInOrder 49 = .ok (.if_icmp .ne 11, 3) := by decide +kernel
theorem dX6_putInOrder_52 : decode cX6_putInOrder 52 = .ok (.iload_n 3, 1) := by decide +kernel
theorem dX6_putInOrder_53 : decode cX6_putInOrder 53 = .ok (.iload_n 1, 1) := by decide +kernel
theorem dX6_putInOrder_54 : decode cX6_putInOrder 54 = .ok (.if_icmp .ge 6, 3) := by decide +kernel
theorem dX6_putInOrder_57 : decode cX6_putInOrder 57 = .ok (.iinc 2 1, 3) := by decide +kernel
theorem dX6_putInOrder_60 : decode cX6_putInOrder 60 = .ok (.iinc 3 1, 3) := by decide +kernel
theorem dX6_putInOrder_63 : decode cX6_putInOrder 63 = .ok (.goto (-49), 3) := by decide +kernel
theorem dX6_putInOrder_66 : decode cX6_putInOrder 66 = .ok (.aload_n 0, 1) := by decide +kernel
theorem dX6_putInOrder_67 : decode cX6_putInOrder 67 = .ok (.getfield 25, 3) := by decide +kernel
theorem dX6_putInOrder_70 : decode cX6_putInOrder 70 = .ok (.iload_n 2, 1) := by decide +kernel
theorem dX6_putInOrder_71 : decode cX6_putInOrder 71 = .ok (.iload_n 1, 1) := by decide +kernel
theorem dX6_putInOrder_72 : decode cX6_putInOrder 72 = .ok (.iastore, 1) := by decide +kernel
theorem dX6_putInOrder_73 : decode cX6_putInOrder 73 = .ok (.iinc 1 1, 3) := by decide +kernel
theorem dX6_putInOrder_76 : decode cX6_putInOrder 76 = .ok (.goto (-74), 3) := by decide +kernel
theorem dX6_putInOrder_79 : decode cX6_putInOrder 79 = .ok (.return_, 1) := by decide +kernel
theorem dX7_init_0 : decode cX7_init 0 = .ok (.aload_n 0, 1) := by decide +kernel
theorem dX7_init_1 : decode cX7_init 1 = .ok (.invokespecial 3, 3) := by decide +kernel
theorem dX7_init_4 : decode cX7_init 4 = .ok (.aload_n 0, 1) := by decide +kernel
theorem dX7_init_5 : decode cX7_init 5 = .ok (.new 9, 3) := by decide +kernel
theorem dX7_init_8 : decode cX7_init 8 = .ok (.dup, 1) := by decide +kernel
theorem dX7_init_9 : decode cX7_init 9 = .ok (.invokespecial 11, 3) := by decide +kernel
theorem dX7_init_12 : decode cX7_init 12 = .ok (.putfield 12, 3) := by decide +kernel
theorem dX7_init_15 : decode cX7_init 15 = .ok (.aload_n 0, 1) := by decide +kernel
theorem dX7_init_16 : decode cX7_init 16 = .ok (.bipush 20, 2) := by decide +kernel
theorem dX7_init_18 : decode cX7_init 18 = .ok (.putfield 18, 3) := by decide +kernel
theorem dX7_init_21 : decode cX7_init 21 = .ok (.aload_n 0, 1) := by decide +kernel
theorem dX7_init_22 : decode cX7_init 22 = .ok (.bipush 8, 2) := by decide +kernel
theorem dX7_init_24 : decode cX7_init 24 = .ok (.newarray .int, 2) := by decide +kernel
theorem dX7_init_26 : decode cX7_init 26 = .ok (.putfield 22, 3) := by decide +kernel
theorem dX7_init_29 : decode cX7_init 29 = .ok (.aload_n 0, 1) := by decide +kernel
theorem dX7_init_30 : decode cX7_init 30 = .ok (.bipush 8, 2) := by decide +kernel
theorem dX7_init_32 : decode cX7_init 32 = .ok (.newarray .int, 2) := by decide +kernel
theorem dX7_init_34 : decode cX7_init 34 = .ok (.putfield 26, 3) := by decide +kernel
theorem dX7_init_37 : decode cX7_init 37 = .ok (.aload_n 0, 1) := by decide +kernel
theorem dX7_init_38 : decode cX7_init 38 = .ok (.bipush 72, 2) := by decide +kernel
theorem dX7_init_40 : decode cX7_init 40 = .ok (.newarray .int, 2) := by decide +kernel
theorem dX7_init_42 : decode cX7_init 42 = .ok (.putfield 29, 3) := by decide +kernel
theorem dX7_init_45 : decode cX7_init 45 = .ok (.aload_n 0, 1) := by decide +kernel
theorem dX7_init_46 : decode cX7_init 46 = .ok (.aload_n 1, 1) := by decide +kernel
theorem dX7_init_47 : decode cX7_init 47 = .ok (.putfield 32, 3) := by decide +kernel
theorem dX7_init_50 : decode cX7_init 50 = .ok (.return_, 1) := by decide +kernel
theorem dX7_copyFrom_0 : decode cX7_copyFrom 0 = .ok (.aload_n 0, 1) := by decide +kernel
theorem dX7_copyFrom_1 : decode cX7_copyFrom 1 = .ok (.getfield 12, 3) := by decide +kernel
theorem dX7_copyFrom_4 : decode cX7_copyFrom 4 = .ok (.aload_n 1, 1) := by decide +kernel
theorem dX7_copyFrom_5 : decode cX7_copyFrom 5 = .ok (.getfield 12, 3) := by decide +kernel
theorem dX7_copyFrom_8 : decode cX7_copyFrom 8 = .ok (.invokevirtual 36, 3) := by decide +kernel
theorem dX7_copyFrom_11 : decode cX7_copyFrom 11 = .ok (.aload_n 0, 1) := by decide +kernel
theorem dX7_copyFrom_12 : decode cX7_copyFrom 12 = .ok (.aload_n 1, 1) := by decide +kernel
theorem dX7_copyFrom_13 : decode cX7_copyFrom 13 = .ok (.getfield 32, 3) := by decide +kernel
theorem dX7_copyFrom_16 : decode cX7_copyFrom 16 = .ok (.putfield 32, 3) := by decide +kernel
theorem dX7_copyFrom_19 : decode cX7_copyFrom 19 = .ok (.aload_n 0, 1) := by decide +kernel
theorem dX7_copyFrom_20 : decode cX7_copyFrom 20 = .ok (.aload_n 1, 1) := by decide +kernel
theorem dX7_copyFrom_21 : decode cX7_copyFrom 21 = .ok (.getfield 40, 3) := by decide +kernel
theorem dX7_copyFrom_24 : decode cX7_copyFrom 24 = .ok (.putfield 40, 3) := by decide +kernel
theorem dX7_copyFrom_27 : decode cX7_copyFrom 27 = .ok (.aload_n 0, 1) := by decide +kernel
theorem dX7_copyFrom_28 : decode cX7_copyFrom 28 = .ok (.aload_n 1, 1) := by decide +kernel
theorem dX7_copyFrom_29 : decode cX7_copyFrom 29 = .ok (.getfield 43, 3) := by decide +kernel
theorem dX7_copyFrom_32 : decode cX7_copyFrom 32 = .ok (.putfield 43, 3) := by decide +kernel
theorem dX7_copyFrom_35 : decode cX7_copyFrom 35 = .ok (.aload_n 0, 1) := by decide +kernel
theorem dX7_copyFrom_36 : decode cX7_copyFrom 36 = .ok (.aload_n 1, 1) := by decide +kernel
theorem dX7_copyFrom_37 : decode cX7_copyFrom 37 = .ok (.getfield 18, 3) := by decide +kernel
theorem dX7_copyFrom_40 : decode cX7_copyFrom 40 = .ok (.putfield 18, 3) := by decide +kernel
theorem dX7_copyFrom_43 : decode cX7_copyFrom 43 = .ok (.aload_n 0, 1) := by decide +kernel
theorem dX7_copyFrom_44 : decode cX7_copyFrom 44 = .ok (.aload_n 1, 1) := by decide +kernel
theorem dX7_copyFrom_45 : decode cX7_copyFrom 45 = .ok (.getfield 46, 3) := by decide +kernel
theorem dX7_copyFrom_48 : decode cX7_copyFrom 48 = .ok (.putfield 46, 3) := by decide +kernel
theorem dX7_copyFrom_51 : decode cX7_copyFrom 51 = .ok (.aload_n 1, 1) := by decide +kernel
theorem dX7_copyFrom_52 : decode cX7_copyFrom 52 = .ok (.getfield 22, 3) := by decide +kernel
theorem dX7_copyFrom_55 : decode cX7_copyFrom 55 = .ok (.iconst 0, 1) := by decide +kernel
theorem dX7_copyFrom_56 : decode cX7_copyFrom 56 = .ok (.aload_n 0, 1) := by decide +kernel
theorem dX7_copyFrom_57 : decode cX7_copyFrom 57 = .ok (.getfield 22, 3) := by decide +kernel
theorem dX7_copyFrom_60 : decode cX7_copyFrom 60 = .ok (.iconst 0, 1) := by decide +kernel
theorem dX7_copyFrom_61 : decode cX7_copyFrom 61 = .ok (.aload_n 0, 1) := by decide +kernel
theorem dX7_copyFrom_62 : decode cX7_copyFrom 62 = .ok (.getfield 46, 3) := by decide +kernel
theorem dX7_copyFrom_65 : decode cX7_copyFrom 65 = .ok (.invokestatic 49, 3) := by decide +kernel
theorem dX7_copyFrom_68 : decode cX7_copyFrom 68 = .ok (.aload_n 1, 1) := by decide +kernel
theorem dX7_copyFrom_69 : decode cX7_copyFrom 69 = .ok (.getfield 26, 3) := by decide +kernel
theorem dX7_copyFrom_72 : decode cX7_copyFrom 72 = .ok (.iconst 0, 1) := by decide +kernel
theorem dX7_copyFrom_73 : decode cX7_copyFrom 73 = .ok (.aload_n 0, 1) := by decide +kernel
theorem dX7_copyFrom_74 : decode cX7_copyFrom 74 = .ok (.getfield 26, 3) := by decide +kernel
theorem dX7_copyFrom_77 : decode cX7_copyFrom 77 = .ok (.iconst 0, 1) := by decide +kernel
theorem dX7_copyFrom_78 : decode cX7_copyFrom 78 = .ok (.aload_n 0, 1) := by decide +kernel
theorem dX7_copyFrom_79 : decode cX7_copyFrom 79 = .ok (.getfield 46, 3) := by decide +kernel
theorem dX7_copyFrom_82 : decode cX7_copyFrom 82 = .ok (.invokestatic 49, 3) := by decide +kernel
theorem dX7_copyFrom_85 : decode cX7_copyFrom 85 = .ok (.aload_n 0, 1) := by decide +kernel
theorem dX7_copyFrom_86 : decode cX7_copyFrom 86 = .ok (.aload_n 1, 1) := by decide +kernel
theorem dX7_copyFrom_87 : decode cX7_copyFrom 87 = .ok (.getfield 55, 3) := by decide +kernel
theorem dX7_copyFrom_90 : decode cX7_copyFrom 90 = .ok (.putfield 55, 3) := by decide +kernel
theorem dX7_copyFrom_93 : decode cX7_copyFrom 93 = .ok (.aload_n 1, 1) := by decide +kernel
theorem dX7_copyFrom_94 : decode cX7_copyFrom 94 = .ok (.getfield 29, 3) := by decide +kernel
theorem dX7_copyFrom_97 : decode cX7_copyFrom 97 = .ok (.iconst 0, 1) := by decide +kernel
theorem dX7_copyFrom_98 : decode cX7_copyFrom 98 = .ok (.aload_n 0, 1) := by decide +kernel
theorem dX7_copyFrom_99 : decode cX7_copyFrom 99 = .ok (.getfield 29, 3) := by decide +kernel
theorem dX7_copyFrom_102 : decode cX7_copyFrom 102 = .ok (.iconst 0, 1) := by decide +kernel
theorem dX7_copyFrom_103 : decode cX7_copyFrom 103 = .ok (.aload_n 0, 1) := by decide +kernel
theorem dX7_copyFrom_104 : decode cX7_copyFrom 104 = .ok (.getfield 55, 3) := by decide +kernel
theorem dX7_copyFrom_107 : decode cX7_copyFrom 107 = .ok (.iconst 3, 1) := by decide +kernel
theorem dX7_copyFrom_108 : decode cX7_copyFrom 108 = .ok (.imul, 1) := by decide +kernel
theorem dX7_copyFrom_109 : decode cX7_copyFrom 109 = .ok (.invokestatic 49, 3) := by decide +kernel
theorem dX7_copyFrom_112 : decode cX7_copyFrom 112 = .ok (.aload_n 0, 1) := by decide +kernel
theorem dX7_copyFrom_113 : decode cX7_copyFrom 113 = .ok (.aload_n 1, 1) := by decide +kernel
theorem dX7_copyFrom_114 : decode cX7_copyFrom 114 = .ok (.getfield 58, 3) := by decide +kernel
theorem dX7_copyFrom_117 : decode cX7_copyFrom 117 = .ok (.putfield 58, 3) := by decide +kernel
theorem dX7_copyFrom_120 : decode cX7_copyFrom 120 = .ok (.return_, 1) := by decide +kernel
theorem dX7_takeRules_0 : decode cX7_takeRules 0 = .ok (.aload_n 0, 1) := by decide +kernel
theorem dX7_takeRules_1 : decode cX7_takeRules 1 = .ok (.aload_n 1, 1) := by decide +kernel
theorem dX7_takeRules_2 : decode cX7_takeRules 2 = .ok (.putfield 32, 3) := by decide +kernel
theorem dX7_takeRules_5 : decode cX7_takeRules 5 = .ok (.aload_n 0, 1) := by decide +kernel
theorem dX7_takeRules_6 : decode cX7_takeRules 6 = .ok (.iconst 1, 1) := by decide +kernel
theorem dX7_takeRules_7 : decode cX7_takeRules 7 = .ok (.aload_n 1, 1) := by decide +kernel
theorem dX7_takeRules_8 : decode cX7_takeRules 8 = .ok (.getfield 61, 3) := by decide +kernel
theorem dX7_takeRules_11 : decode cX7_takeRules 11 = .ok (.ishl, 1) := by decide +kernel
theorem dX7_takeRules_12 : decode cX7_takeRules 12 = .ok (.iconst 1, 1) := by decide +kernel
theorem dX7_takeRules_13 : decode cX7_takeRules 13 = .ok (.isub, 1) := by decide +kernel
theorem dX7_takeRules_14 : decode cX7_takeRules 14 = .ok (.putfield 40, 3) := by decide +kernel
theorem dX7_takeRules_17 : decode cX7_takeRules 17 = .ok (.aload_n 0, 1) := by decide +kernel
theorem dX7_takeRules_18 : decode cX7_takeRules 18 = .ok (.iconst 0, 1) := by decide +kernel
theorem dX7_takeRules_19 : decode cX7_takeRules 19 = .ok (.putfield 46, 3) := by decide +kernel
theorem dX7_takeRules_22 : decode cX7_takeRules 22 = .ok (.return_, 1) := by decide +kernel
theorem dX7_isOn_0 : decode cX7_isOn 0 = .ok (.aload_n 0, 1) := by decide +kernel
theorem dX7_isOn_1 : decode cX7_isOn 1 = .ok (.getfield 40, 3) := by decide +kernel
theorem dX7_isOn_4 : decode cX7_isOn 4 = .ok (.iload_n 1, 1) := by decide +kernel
theorem dX7_isOn_5 : decode cX7_isOn 5 = .ok (.ishr, 1) := by decide +kernel
theorem dX7_isOn_6 : decode cX7_isOn 6 = .ok (.iconst 1, 1) := by decide +kernel
theorem dX7_isOn_7 : decode cX7_isOn 7 = .ok (.iand, 1) := by decide +kernel
theorem dX7_isOn_8 : decode cX7_isOn 8 = .ok (.iconst 1, 1) := by decide +kernel
theorem dX7_isOn_9 : decode cX7_isOn 9 = .ok (.if_icmp .ne 7, 3) := by decide +kernel
theorem dX7_isOn_12 : decode cX7_isOn 12 = .ok (.iconst 1, 1) := by decide +kernel
theorem dX7_isOn_13 : decode cX7_isOn 13 = .ok (.goto 4, 3) := by decide +kernel
theorem dX7_isOn_16 : decode cX7_isOn 16 = .ok (.iconst 0, 1) := by decide +kernel
theorem dX7_isOn_17 : decode cX7_isOn 17 = .ok (.ireturn, 1) := by decide +kernel
theorem dX7_isYieldTold_0 : decode cX7_isYieldTold 0 = .ok (.iconst 0, 1) := by decide +kernel
theorem dX7_isYieldTold_1 : decode cX7_isYieldTold 1 = .ok (.istore_n 3, 1) := by decide +kernel
theorem dX7_isYieldTold_2 : decode cX7_isYieldTold 2 = .ok (.iload_n 3, 1) := by decide +kernel
theorem dX7_isYieldTold_3 : decode cX7_isYieldTold 3 = .ok (.aload_n 0, 1) := by decide +kernel
theorem dX7_isYieldTold_4 : decode cX7_isYieldTold 4 = .ok (.getfield 46, 3) := by decide +kernel
theorem dX7_isYieldTold_7 : decode cX7_isYieldTold 7 = .ok (.if_icmp .ge 31, 3) := by decide +kernel
theorem dX7_isYieldTold_10 : decode cX7_isYieldTold 10 = .ok (.aload_n 0, 1) := by decide +kernel
theorem dX7_isYieldTold_11 : decode cX7_isYieldTold 11 = .ok (.getfield 22, 3) := by decide +kernel
theorem dX7_isYieldTold_14 : decode cX7_isYieldTold 14 = .ok (.iload_n 3, 1) := by decide +kernel
theorem dX7_isYieldTold_15 : decode cX7_isYieldTold 15 = .ok (.iaload, 1) := by decide +kernel
theorem dX7_isYieldTold_16 : decode cX7_isYieldTold 16 = .ok (.iload_n 1, 1) := by decide +kernel
theorem dX7_isYieldTold_17 : decode cX7_isYieldTold 17 = .ok (.if_icmp .ne 15, 3) := by decide +kernel
theorem dX7_isYieldTold_20 : decode cX7_isYieldTold 20 = .ok (.aload_n 0, 1) := by decide +kernel
theorem dX7_isYieldTold_21 : decode cX7_isYieldTold 21 = .ok (.getfield 26, 3) := by decide +kernel
theorem dX7_isYieldTold_24 : decode cX7_isYieldTold 24 = .ok (.iload_n 3, 1) := by decide +kernel
theorem dX7_isYieldTold_25 : decode cX7_isYieldTold 25 = .ok (.iaload, 1) := by decide +kernel
theorem dX7_isYieldTold_26 : decode cX7_isYieldTold 26 = .ok (.iload_n 2, 1) := by decide +kernel
theorem dX7_isYieldTold_27 : decode cX7_isYieldTold 27 = .ok (.if_icmp .ne 5, 3) := by decide +kernel
theorem dX7_isYieldTold_30 : decode cX7_isYieldTold 30 = .ok (.iconst 1, 1) := by decide +kernel
theorem dX7_isYieldTold_31 : decode cX7_isYieldTold 31 = .ok (.ireturn, 1) := by decide +kernel
theorem dX7_isYieldTold_32 : decode cX7_isYieldTold 32 = .ok (.iinc 3 1, 3) := by decide +kernel
theorem dX7_isYieldTold_35 : decode cX7_isYieldTold 35 = .ok (.goto (-33), 3) := by decide +kernel
theorem dX7_isYieldTold_38 : decode cX7_isYieldTold 38 = .ok (.iconst 0, 1) := by decide +kernel
theorem dX7_isYieldTold_39 : decode cX7_isYieldTold 39 = .ok (.ireturn, 1) := by decide +kernel
theorem dX7_addYield_0 : decode cX7_addYield 0 = .ok (.aload_n 0, 1) := by decide +kernel
theorem dX7_addYield_1 : decode cX7_addYield 1 = .ok (.getfield 46, 3) := by decide +kernel
theorem dX7_addYield_4 : decode cX7_addYield 4 = .ok (.bipush 8, 2) := by decide +kernel
theorem dX7_addYield_6 : decode cX7_addYield 6 = .ok (.if_icmp .ge 33, 3) := by decide +kernel
theorem dX7_addYield_9 : decode cX7_addYield 9 = .ok (.aload_n 0, 1) := by decide +kernel
theorem dX7_addYield_10 : decode cX7_addYield 10 = .ok (.getfield 22, 3) := by decide +kernel
theorem dX7_addYield_13 : decode cX7_addYield 13 = .ok (.aload_n 0, 1) := by decide +kernel
theorem dX7_addYield_14 : decode cX7_addYield 14 = .ok (.getfield 46, 3) := by decide +kernel
theorem dX7_addYield_17 : decode cX7_addYield 17 = .ok (.iload_n 1, 1) := by decide +kernel
theorem dX7_addYield_18 : decode cX7_addYield 18 = .ok (.iastore, 1) := by decide +kernel
theorem dX7_addYield_19 : decode cX7_addYield 19 = .ok (.aload_n 0, 1) := by decide +kernel
theorem dX7_addYield_20 : decode cX7_addYield 20 = .ok (.getfield 26, 3) := by decide +kernel
theorem dX7_addYield_23 : decode cX7_addYield 23 = .ok (.aload_n 0, 1) := by decide +kernel
theorem dX7_addYield_24 : decode cX7_addYield 24 = .ok (.getfield 46, 3) := by decide +kernel
theorem dX7_addYield_27 : decode cX7_addYield 27 = .ok (.iload_n 2, 1) := by decide +kernel
theorem dX7_addYield_28 : decode cX7_addYield 28 = .ok (.iastore, 1) := by decide +kernel
theorem dX7_addYield_29 : decode cX7_addYield 29 = .ok (.aload_n 0, 1) := by decide +kernel
theorem dX7_addYield_30 : decode cX7_addYield 30 = .ok (.dup, 1) := by decide +kernel
theorem dX7_addYield_31 : decode cX7_addYield 31 = .ok (.getfield 46, 3) := by decide +kernel
theorem dX7_addYield_34 : decode cX7_addYield 34 = .ok (.iconst 1, 1) := by decide +kernel
theorem dX7_addYield_35 : decode cX7_addYield 35 = .ok (.iadd, 1) := by decide +kernel
theorem dX7_addYield_36 : decode cX7_addYield 36 = .ok (.putfield 46, 3) := by decide +kernel
theorem dX7_addYield_39 : decode cX7_addYield 39 = .ok (.return_, 1) := by decide +kernel
theorem dX7_yieldsTo_0 : decode cX7_yieldsTo 0 = .ok (.iconst 0, 1) := by decide +kernel
theorem dX7_yieldsTo_1 : decode cX7_yieldsTo 1 = .ok (.istore_n 2, 1) := by decide +kernel
theorem dX7_yieldsTo_2 : decode cX7_yieldsTo 2 = .ok (.iconst 0, 1) := by decide +kernel
theorem dX7_yieldsTo_3 : decode cX7_yieldsTo 3 = .ok (.istore_n 3, 1) := by decide +kernel
theorem dX7_yieldsTo_4 : decode cX7_yieldsTo 4 = .ok (.iload_n 3, 1) := by decide +kernel
theorem dX7_yieldsTo_5 : decode cX7_yieldsTo 5 = .ok (.aload_n 0, 1) := by decide +kernel
theorem dX7_yieldsTo_6 : decode cX7_yieldsTo 6 = .ok (.getfield 46, 3) := by decide +kernel
theorem dX7_yieldsTo_9 : decode cX7_yieldsTo 9 = .ok (.if_icmp .ge 34, 3) := by decide +kernel
theorem dX7_yieldsTo_12 : decode cX7_yieldsTo 12 = .ok (.iload_n 1, 1) := by decide +kernel
theorem dX7_yieldsTo_13 : decode cX7_yieldsTo 13 = .ok (.aload_n 0, 1) := by decide +kernel
theorem dX7_yieldsTo_14 : decode cX7_yieldsTo 14 = .ok (.getfield 26, 3) := by decide +kernel
theorem dX7_yieldsTo_17 : decode cX7_yieldsTo 17 = .ok (.iload_n 3, 1) := by decide +kernel
theorem dX7_yieldsTo_18 : decode cX7_yieldsTo 18 = .ok (.iaload, 1) := by decide +kernel
theorem dX7_yieldsTo_19 : decode cX7_yieldsTo 19 = .ok (.ishr, 1) := by decide +kernel
theorem dX7_yieldsTo_20 : decode cX7_yieldsTo 20 = .ok (.iconst 1, 1) := by decide +kernel
theorem dX7_yieldsTo_21 : decode cX7_yieldsTo 21 = .ok (.iand, 1) := by decide +kernel
theorem dX7_yieldsTo_22 : decode cX7_yieldsTo 22 = .ok (.iconst 1, 1) := by decide +kernel
theorem dX7_yieldsTo_23 : decode cX7_yieldsTo 23 = .ok (.if_icmp .ne 14, 3) := by decide +kernel
theorem dX7_yieldsTo_26 : decode cX7_yieldsTo 26 = .ok (.iload_n 2, 1) := by decide +kernel
theorem dX7_yieldsTo_27 : decode cX7_yieldsTo 27 = .ok (.iconst 1, 1) := by decide +kernel
theorem dX7_yieldsTo_28 : decode cX7_yieldsTo 28 = .ok (.aload_n 0, 1) := by decide +kernel
theorem dX7_yieldsTo_29 : decode cX7_yieldsTo 29 = .ok (.getfield 22, 3) := by decide +kernel
theorem dX7_yieldsTo_32 : decode cX7_yieldsTo 32 = .ok (.iload_n 3, 1) := by decide +kernel
theorem dX7_yieldsTo_33 : decode cX7_yieldsTo 33 = .ok (.iaload, 1) := by decide +kernel
theorem dX7_yieldsTo_34 : decode cX7_yieldsTo 34 = .ok (.ishl, 1) := by decide +kernel
theorem dX7_yieldsTo_35 : decode cX7_yieldsTo 35 = .ok (.ior, 1) := by decide +kernel
theorem dX7_yieldsTo_36 : decode cX7_yieldsTo 36 = .ok (.istore_n 2, 1) := by decide +kernel
theorem dX7_yieldsTo_37 : decode cX7_yieldsTo 37 = .ok (.iinc 3 1, 3) := by decide +kernel
theorem dX7_yieldsTo_40 : decode cX7_yieldsTo 40 = .ok (.goto (-36), 3) := by decide +kernel
theorem dX7_yieldsTo_43 : decode cX7_yieldsTo 43 = .ok (.iload_n 2, 1) := by decide +kernel
theorem dX7_yieldsTo_44 : decode cX7_yieldsTo 44 = .ok (.ireturn, 1) := by decide +kernel
theorem dX7_reachesByYielding_0 : decode cX7_reachesByYielding 0 = .ok (.iconst 1, 1) := by decide +kernel
theorem dX7_reachesByYielding_1 : decode cX7_reachesByYielding 1 = .ok (.iload_n 1, 1) := by decide +kernel
theorem dX7_reachesByYielding_2 : decode cX7_reachesByYielding 2 = .ok (.ishl, 1) := by decide +kernel
theorem dX7_reachesByYielding_3 : decode cX7_reachesByYielding 3 = .ok (.istore_n 3, 1) := by decide +kernel
theorem dX7_reachesByYielding_4 : decode cX7_reachesByYielding 4 = .ok (.iconst 0, 1) := by decide +kernel
theorem dX7_reachesByYielding_5 : decode cX7_reachesByYielding 5 = .ok (.istore 4, 2) := by decide +kernel
theorem dX7_reachesByYielding_7 : decode cX7_reachesByYielding 7 = .ok (.iload 4, 2) := by decide +kernel
theorem dX7_reachesByYielding_9 : decode cX7_reachesByYielding 9 = .ok (.bipush 6, 2) := by decide +kernel
theorem dX7_reachesByYielding_11 : decode cX7_reachesByYielding 11 = .ok (.if_icmp .ge 17, 3) := by decide +kernel
theorem dX7_reachesByYielding_14 : decode cX7_reachesByYielding 14 = .ok (.iload_n 3, 1) := by decide +kernel
theorem dX7_reachesByYielding_15 : decode cX7_reachesByYielding 15 = .ok (.aload_n 0, 1) := by decide +kernel
theorem dX7_reachesByYielding_16 : decode cX7_reachesByYielding 16 = .ok (.iload_n 3, 1) := by decide +kernel
theorem dX7_reachesByYielding_17 : decode cX7_reachesByYielding 17 = .ok (.invokevirtual 66, 3) := by decide +kernel
theorem dX7_reachesByYielding_20 : decode cX7_reachesByYielding 20 = .ok (.ior, 1) := by decide +kernel
theorem dX7_reachesByYielding_21 : decode cX7_reachesByYielding 21 = .ok (.istore_n 3, 1) := by decide +kernel
theorem dX7_reachesByYielding_22 : decode cX7_reachesByYielding 22 = .ok (.iinc 4 1, 3) := by decide +kernel
theorem dX7_reachesByYielding_25 : decode cX7_reachesByYielding 25 = .ok (.goto (-18), 3) := by decide +kernel
theorem dX7_reachesByYielding_28 : decode cX7_reachesByYielding 28 = .ok (.iload_n 3, 1) := by decide +kernel
theorem dX7_reachesByYielding_29 : decode cX7_reachesByYielding 29 = .ok (.iload_n 2, 1) := by decide +kernel
theorem dX7_reachesByYielding_30 : decode cX7_reachesByYielding 30 = .ok (.ishr, 1) := by decide +kernel
theorem dX7_reachesByYielding_31 : decode cX7_reachesByYielding 31 = .ok (.iconst 1, 1) := by decide +kernel
theorem dX7_reachesByYielding_32 : decode cX7_reachesByYielding 32 = .ok (.iand, 1) := by decide +kernel
theorem dX7_reachesByYielding_33 : decode cX7_reachesByYielding 33 = .ok (.iconst 1, 1) := by decide +kernel
theorem dX7_reachesByYielding_34 : decode cX7_reachesByYielding 34 = .ok (.if_icmp .ne 7, 3) := by decide +kernel
theorem dX7_reachesByYielding_37 : decode cX7_reachesByYielding 37 = .ok (.iconst 1, 1) := by decide +kernel
theorem dX7_reachesByYielding_38 : decode cX7_reachesByYielding 38 = .ok (.goto 4, 3) := by decide +kernel
theorem dX7_reachesByYielding_41 : decode cX7_reachesByYielding 41 = .ok (.iconst 0, 1) := by decide +kernel
theorem dX7_reachesByYielding_42 : decode cX7_reachesByYielding 42 = .ok (.ireturn, 1) := by decide +kernel
theorem dX7_enterRound_0 : decode cX7_enterRound 0 = .ok (.aload_n 0, 1) := by decide +kernel
theorem dX7_enterRound_1 : decode cX7_enterRound 1 = .ok (.getfield 55, 3) := by decide +kernel
theorem dX7_enterRound_4 : decode cX7_enterRound 4 = .ok (.bipush 24, 2) := by decide +kernel
theorem dX7_enterRound_6 : decode cX7_enterRound 6 = .ok (.if_icmp .lt 24, 3) := by decide +kernel
theorem dX7_enterRound_9 : decode cX7_enterRound 9 = .ok (.aload_n 0, 1) := by decide +kernel
theorem dX7_enterRound_10 : decode cX7_enterRound 10 = .ok (.getfield 29, 3) := by decide +kernel
theorem dX7_enterRound_13 : decode cX7_enterRound 13 = .ok (.iconst 3, 1) := by decide +kernel
theorem dX7_enterRound_14 : decode cX7_enterRound 14 = .ok (.aload_n 0, 1) := by decide +kernel
theorem dX7_enterRound_15 : decode cX7_enterRound 15 = .ok (.getfield 29, 3) := by decide +kernel
theorem dX7_enterRound_18 : decode cX7_enterRound 18 = .ok (.iconst 0, 1) := by decide +kernel
theorem dX7_enterRound_19 : decode cX7_enterRound 19 = .ok (.bipush 69, 2) := by decide +kernel
theorem dX7_enterRound_21 : decode cX7_enterRound 21 = .ok (.invokestatic 49, 3) := by decide +kernel
theorem dX7_enterRound_24 : decode cX7_enterRound 24 = .ok (.aload_n 0, 1) := by decide +kernel
theorem dX7_enterRound_25 : decode cX7_enterRound 25 = .ok (.bipush 23, 2) := by decide +kernel
theorem dX7_enterRound_27 : decode cX7_enterRound 27 = .ok (.putfield 55, 3) := by decide +kernel
theorem dX7_enterRound_30 : decode cX7_enterRound 30 = .ok (.aload_n 0, 1) := by decide +kernel
theorem dX7_enterRound_31 : decode cX7_enterRound 31 = .ok (.getfield 55, 3) := by decide +kernel
theorem dX7_enterRound_34 : decode cX7_enterRound 34 = .ok (.iconst 3, 1) := by decide +kernel
theorem dX7_enterRound_35 : decode cX7_enterRound 35 = .ok (.imul, 1) := by decide +kernel
theorem dX7_enterRound_36 : decode cX7_enterRound 36 = .ok (.istore 4, 2) := by decide +kernel
theorem dX7_enterRound_38 : decode cX7_enterRound 38 = .ok (.aload_n 0, 1) := by decide +kernel
theorem dX7_enterRound_39 : decode cX7_enterRound 39 = .ok (.getfield 29, 3) := by decide +kernel
theorem dX7_enterRound_42 : decode cX7_enterRound 42 = .ok (.iload 4, 2) := by decide +kernel
theorem dX7_enterRound_44 : decode cX7_enterRound 44 = .ok (.iload_n 1, 1) := by decide +kernel
theorem dX7_enterRound_45 : decode cX7_enterRound 45 = .ok (.iastore, 1) := by decide +kernel
theorem dX7_enterRound_46 : decode cX7_enterRound 46 = .ok (.aload_n 0, 1) := by decide +kernel
theorem dX7_enterRound_47 : decode cX7_enterRound 47 = .ok (.getfield 29, 3) := by decide +kernel
theorem dX7_enterRound_50 : decode cX7_enterRound 50 = .ok (.iload 4, 2) := by decide +kernel
theorem dX7_enterRound_52 : decode cX7_enterRound 52 = .ok (.iconst 1, 1) := by decide +kernel
theorem dX7_enterRound_53 : decode cX7_enterRound 53 = .ok (.iadd, 1) := by decide +kernel
theorem dX7_enterRound_54 : decode cX7_enterRound 54 = .ok (.iload_n 2, 1) := by decide +kernel
theorem dX7_enterRound_55 : decode cX7_enterRound 55 = .ok (.iastore, 1) := by decide +kernel
theorem dX7_enterRound_56 : decode cX7_enterRound 56 = .ok (.aload_n 0, 1) := by decide +kernel
theorem dX7_enterRound_57 : decode cX7_enterRound 57 = .ok (.getfield 29, 3) := by decide +kernel
theorem dX7_enterRound_60 : decode cX7_enterRound 60 = .ok (.iload 4, 2) := by decide +kernel
theorem dX7_enterRound_62 : decode cX7_enterRound 62 = .ok (.iconst 2, 1) := by decide +kernel
theorem dX7_enterRound_63 : decode cX7_enterRound 63 = .ok (.iadd, 1) := by decide +kernel
theorem dX7_enterRound_64 : decode cX7_enterRound 64 = .ok (.iload_n 3, 1) := by decide +kernel
theorem dX7_enterRound_65 : decode cX7_enterRound 65 = .ok (.iastore, 1) := by decide +kernel
theorem dX7_enterRound_66 : decode cX7_enterRound 66 = .ok (.aload_n 0, 1) := by decide +kernel
theorem dX7_enterRound_67 : decode cX7_enterRound 67 = .ok (.dup, 1) := by decide +kernel
theorem dX7_enterRound_68 : decode cX7_enterRound 68 = .ok (.getfield 55, 3) := by decide +kernel
theorem dX7_enterRound_71 : decode cX7_enterRound 71 = .ok (.iconst 1, 1) := by decide +kernel
theorem dX7_enterRound_72 : decode cX7_enterRound 72 = .ok (.iadd, 1) := by decide +kernel
theorem dX7_enterRound_73 : decode cX7_enterRound 73 = .ok (.putfield 55, 3) := by decide +kernel
theorem dX7_enterRound_76 : decode cX7_enterRound 76 = .ok (.aload_n 0, 1) := by decide +kernel
theorem dX7_enterRound_77 : decode cX7_enterRound 77 = .ok (.dup, 1) := by decide +kernel
theorem dX7_enterRound_78 : decode cX7_enterRound 78 = .ok (.getfield 58, 3) := by decide +kernel
theorem dX7_enterRound_81 : decode cX7_enterRound 81 = .ok (.iconst 1, 1) := by decide +kernel
theorem dX7_enterRound_82 : decode cX7_enterRound 82 = .ok (.iadd, 1) := by decide +kernel
theorem dX7_enterRound_83 : decode cX7_enterRound 83 = .ok (.putfield 58, 3) := by decide +kernel
theorem dX7_enterRound_86 : decode cX7_enterRound 86 = .ok (.return_, 1) := by decide +kernel
theorem dX8_init_0 : decode cX8_init 0 = .ok (.aload_n 0, 1) := by decide +kernel
theorem dX8_init_1 : decode cX8_init 1 = .ok (.invokespecial 3, 3) := by decide +kernel
theorem dX8_init_4 : decode cX8_init 4 = .ok (.aload_n 0, 1) := by decide +kernel
theorem dX8_init_5 : decode cX8_init 5 = .ok (.sipush 201, 3) := by decide +kernel
theorem dX8_init_8 : decode cX8_init 8 = .ok (.newarray .int, 2) := by decide +kernel
theorem dX8_init_10 : decode cX8_init 10 = .ok (.putfield 9, 3) := by decide +kernel
theorem dX8_init_13 : decode cX8_init 13 = .ok (.aload_n 0, 1) := by decide +kernel
theorem dX8_init_14 : decode cX8_init 14 = .ok (.sipush 200, 3) := by decide +kernel
theorem dX8_init_17 : decode cX8_init 17 = .ok (.newarray .int, 2) := by decide +kernel
theorem dX8_init_19 : decode cX8_init 19 = .ok (.putfield 15, 3) := by decide +kernel
theorem dX8_init_22 : decode cX8_init 22 = .ok (.return_, 1) := by decide +kernel
theorem dX8_split_0 : decode cX8_split 0 = .ok (.aload_n 0, 1) := by decide +kernel
theorem dX8_split_1 : decode cX8_split 1 = .ok (.iconst 0, 1) := by decide +kernel
theorem dX8_split_2 : decode cX8_split 2 = .ok (.putfield 18, 3) := by decide +kernel
theorem dX8_split_5 : decode cX8_split 5 = .ok (.iconst 0, 1) := by decide +kernel
theorem dX8_split_6 : decode cX8_split 6 = .ok (.istore_n 2, 1) := by decide +kernel
theorem dX8_split_7 : decode cX8_split 7 = .ok (.iload_n 2, 1) := by decide +kernel
theorem dX8_split_8 : decode cX8_split 8 = .ok (.aload_n 1, 1) := by decide +kernel
theorem dX8_split_9 : decode cX8_split 9 = .ok (.getfield 22, 3) := by decide +kernel
theorem dX8_split_12 : decode cX8_split 12 = .ok (.if_icmp .ge 76, 3) := by decide +kernel
theorem dX8_split_15 : decode cX8_split 15 = .ok (.aload_n 1, 1) := by decide +kernel
theorem dX8_split_16 : decode cX8_split 16 = .ok (.getfield 27, 3) := by decide +kernel
theorem dX8_split_19 : decode cX8_split 19 = .ok (.iload_n 2, 1) := by decide +kernel
theorem dX8_split_20 : decode cX8_split 20 = .ok (.baload, 1) := by decide +kernel
theorem dX8_split_21 : decode cX8_split 21 = .ok (.invokestatic 31, 3) := by decide +kernel
theorem dX8_split_24 : decode cX8_split 24 = .ok (.istore_n 3, 1) := by decide +kernel
theorem dX8_split_25 : decode cX8_split 25 = .ok (.aload_n 0, 1) := by decide +kernel
theorem dX8_split_26 : decode cX8_split 26 = .ok (.getfield 18, 3) := by decide +kernel
theorem dX8_split_29 : decode cX8_split 29 = .ok (.ifCond .eq 23, 3) := by decide +kernel
theorem dX8_split_32 : decode cX8_split 32 = .ok (.iload_n 3, 1) := by decide +kernel
theorem dX8_split_33 : decode cX8_split 33 = .ok (.iconst 3, 1) := by decide +kernel
theorem dX8_split_34 : decode cX8_split 34 = .ok (.if_icmp .eq 18, 3) := by decide +kernel
theorem dX8_split_37 : decode cX8_split 37 = .ok (.iload_n 3, 1) := by decide +kernel
theorem dX8_split_38 : decode cX8_split 38 = .ok (.aload_n 0, 1) := by decide +kernel
theorem dX8_split_39 : decode cX8_split 39 = .ok (.getfield 15, 3) := by decide +kernel
theorem dX8_split_42 : decode cX8_split 42 = .ok (.aload_n 0, 1) := by decide +kernel
theorem dX8_split_43 : decode cX8_split 43 = .ok (.getfield 18, 3) := by decide +kernel
theorem dX8_split_46 : decode cX8_split 46 = .ok (.iconst 1, 1) := by decide +kernel
theorem dX8_split_47 : decode cX8_split 47 = .ok (.isub, 1) := by decide +kernel
theorem dX8_split_48 : decode cX8_split 48 = .ok (.iaload, 1) := by decide +kernel
theorem dX8_split_49 : decode cX8_split 49 = .ok (.if_icmp .eq 33, 3) := by decide +kernel
theorem dX8_split_52 : decode cX8_split 52 = .ok (.aload_n 0, 1) := by decide +kernel
theorem dX8_split_53 : decode cX8_split 53 = .ok (.getfield 9, 3) := by decide +kernel
theorem dX8_split_56 : decode cX8_split 56 = .ok (.aload_n 0, 1) := by decide +kernel
theorem dX8_split_57 : decode cX8_split 57 = .ok (.getfield 18, 3) := by decide +kernel
theorem dX8_split_60 : decode cX8_split 60 = .ok (.iload_n 2, 1) := by decide +kernel
theorem dX8_split_61 : decode cX8_split 61 = .ok (.iastore, 1) := by decide +kernel
theorem dX8_split_62 : decode cX8_split 62 = .ok (.aload_n 0, 1) := by decide +kernel
theorem dX8_split_63 : decode cX8_split 63 = .ok (.getfield 15, 3) := by decide +kernel
theorem dX8_split_66 : decode cX8_split 66 = .ok (.aload_n 0, 1) := by decide +kernel
theorem dX8_split_67 : decode cX8_split 67 = .ok (.getfield 18, 3) := by decide +kernel
theorem dX8_split_70 : decode cX8_split 70 = .ok (.iload_n 3, 1) := by decide +kernel
theorem dX8_split_71 : decode cX8_split 71 = .ok (.iastore, 1) := by decide +kernel
theorem dX8_split_72 : decode cX8_split 72 = .ok (.aload_n 0, 1) := by decide +kernel
theorem dX8_split_73 : decode cX8_split 73 = .ok (.dup, 1) := by decide +kernel
theorem dX8_split_74 : decode cX8_split 74 = .ok (.getfield 18, 3) := by decide +kernel
theorem dX8_split_77 : decode cX8_split 77 = .ok (.iconst 1, 1) := by decide +kernel
theorem dX8_split_78 : decode cX8_split 78 = .ok (.iadd, 1) := by decide +kernel
theorem dX8_split_79 : decode cX8_split 79 = .ok (.putfield 18, 3) := by decide +kernel
theorem dX8_split_82 : decode cX8_split 82 = .ok (.iinc 2 1, 3) := by decide +kernel
theorem dX8_split_85 : decode cX8_split 85 = .ok (.goto (-78), 3) := by decide +kernel
theorem dX8_split_88 : decode cX8_split 88 = .ok (.aload_n 0, 1) := by decide +kernel
theorem dX8_split_89 : decode cX8_split 89 = .ok (.getfield 9, 3) := by decide +kernel
theorem dX8_split_92 : decode cX8_split 92 = .ok (.aload_n 0, 1) := by decide +kernel
theorem dX8_split_93 : decode cX8_split 93 = .ok (.getfield 18, 3) := by decide +kernel
theorem dX8_split_96 : decode cX8_split 96 = .ok (.aload_n 1, 1) := by decide +kernel
theorem dX8_split_97 : decode cX8_split 97 = .ok (.getfield 22, 3) := by decide +kernel
theorem dX8_split_100 : decode cX8_split 100 = .ok (.iastore, 1) := by decide +kernel
theorem dX8_split_101 : decode cX8_split 101 = .ok (.return_, 1) := by decide +kernel
theorem dX8_holding_0 : decode cX8_holding 0 = .ok (.iconst 0, 1) := by decide +kernel
theorem dX8_holding_1 : decode cX8_holding 1 = .ok (.istore_n 2, 1) := by decide +kernel
theorem dX8_holding_2 : decode cX8_holding 2 = .ok (.iload_n 2, 1) := by decide +kernel
theorem dX8_holding_3 : decode cX8_holding 3 = .ok (.aload_n 0, 1) := by decide +kernel
theorem dX8_holding_4 : decode cX8_holding 4 = .ok (.getfield 18, 3) := by decide +kernel
theorem dX8_holding_7 : decode cX8_holding 7 = .ok (.if_icmp .ge 23, 3) := by decide +kernel
theorem dX8_holding_10 : decode cX8_holding 10 = .ok (.iload_n 1, 1) := by decide +kernel
theorem dX8_holding_11 : decode cX8_holding 11 = .ok (.aload_n 0, 1) := by decide +kernel
theorem dX8_holding_12 : decode cX8_holding 12 = .ok (.getfield 9, 3) := by decide +kernel
theorem dX8_holding_15 : decode cX8_holding 15 = .ok (.iload_n 2, 1) := by decide +kernel
theorem dX8_holding_16 : decode cX8_holding 16 = .ok (.iconst 1, 1) := by decide +kernel
theorem dX8_holding_17 : decode cX8_holding 17 = .ok (.iadd, 1) := by decide +kernel
theorem dX8_holding_18 : decode cX8_holding 18 = .ok (.iaload, 1) := by decide +kernel
theorem dX8_holding_19 : decode cX8_holding 19 = .ok (.if_icmp .ge 5, 3) := by decide +kernel
theorem dX8_holding_22 : decode cX8_holding 22 = .ok (.iload_n 2, 1) := by decide +kernel
theorem dX8_holding_23 : decode cX8_holding 23 = .ok (.ireturn, 1) := by decide +kernel
theorem dX8_holding_24 : decode cX8_holding 24 = .ok (.iinc 2 1, 3) := by decide +kernel
theorem dX8_holding_27 : decode cX8_holding 27 = .ok (.goto (-25), 3) := by decide +kernel
theorem dX8_holding_30 : decode cX8_holding 30 = .ok (.iconst (-1), 1) := by decide +kernel
theorem dX8_holding_31 : decode cX8_holding 31 = .ok (.ireturn, 1) := by decide +kernel
theorem dX9_init_0 : decode cX9_init 0 = .ok (.aload_n 0, 1) := by decide +kernel
theorem dX9_init_1 : decode cX9_init 1 = .ok (.invokespecial 3, 3) := by decide +kernel
theorem dX9_init_4 : decode cX9_init 4 = .ok (.aload_n 0, 1) := by decide +kernel
theorem dX9_init_5 : decode cX9_init 5 = .ok (.new 9, 3) := by decide +kernel
theorem dX9_init_8 : decode cX9_init 8 = .ok (.dup, 1) := by decide +kernel
theorem dX9_init_9 : decode cX9_init 9 = .ok (.invokespecial 11, 3) := by decide +kernel
theorem dX9_init_12 : decode cX9_init 12 = .ok (.putfield 12, 3) := by decide +kernel
theorem dX9_init_15 : decode cX9_init 15 = .ok (.aload_n 0, 1) := by decide +kernel
theorem dX9_init_16 : decode cX9_init 16 = .ok (.new 16, 3) := by decide +kernel
theorem dX9_init_19 : decode cX9_init 19 = .ok (.dup, 1) := by decide +kernel
theorem dX9_init_20 : decode cX9_init 20 = .ok (.invokespecial 18, 3) := by decide +kernel
theorem dX9_init_23 : decode cX9_init 23 = .ok (.putfield 19, 3) := by decide +kernel
theorem dX9_init_26 : decode cX9_init 26 = .ok (.aload_n 0, 1) := by decide +kernel
theorem dX9_init_27 : decode cX9_init 27 = .ok (.new 23, 3) := by decide +kernel
theorem dX9_init_30 : decode cX9_init 30 = .ok (.dup, 1) := by decide +kernel
theorem dX9_init_31 : decode cX9_init 31 = .ok (.invokespecial 25, 3) := by decide +kernel
theorem dX9_init_34 : decode cX9_init 34 = .ok (.putfield 26, 3) := by decide +kernel
theorem dX9_init_37 : decode cX9_init 37 = .ok (.aload_n 0, 1) := by decide +kernel
theorem dX9_init_38 : decode cX9_init 38 = .ok (.iconst 1, 1) := by decide +kernel
theorem dX9_init_39 : decode cX9_init 39 = .ok (.newarray .int, 2) := by decide +kernel
theorem dX9_init_41 : decode cX9_init 41 = .ok (.putfield 30, 3) := by decide +kernel
theorem dX9_init_44 : decode cX9_init 44 = .ok (.sipush 300, 3) := by decide +kernel
theorem dX9_init_47 : decode cX9_init 47 = .ok (.newarray .byte, 2) := by decide +kernel
theorem dX9_init_49 : decode cX9_init 49 = .ok (.astore_n 1, 1) := by decide +kernel
theorem dX9_init_50 : decode cX9_init 50 = .ok (.new 34, 3) := by decide +kernel
theorem dX9_init_53 : decode cX9_init 53 = .ok (.dup, 1) := by decide +kernel
theorem dX9_init_54 : decode cX9_init 54 = .ok (.invokespecial 36, 3) := by decide +kernel
theorem dX9_init_57 : decode cX9_init 57 = .ok (.astore_n 2, 1) := by decide +kernel
theorem dX9_init_58 : decode cX9_init 58 = .ok (.new 34, 3) := by decide +kernel
theorem dX9_init_61 : decode cX9_init 61 = .ok (.dup, 1) := by decide +kernel
theorem dX9_init_62 : decode cX9_init 62 = .ok (.invokespecial 36, 3) := by decide +kernel
theorem dX9_init_65 : decode cX9_init 65 = .ok (.astore_n 3, 1) := by decide +kernel
theorem dX9_init_66 : decode cX9_init 66 = .ok (.new 37, 3) := by decide +kernel
theorem dX9_init_69 : decode cX9_init 69 = .ok (.dup, 1) := by decide +kernel
theorem dX9_init_70 : decode cX9_init 70 = .ok (.aload_n 3, 1) := by decide +kernel
theorem dX9_init_71 : decode cX9_init 71 = .ok (.invokespecial 39, 3) := by decide +kernel
theorem dX9_init_74 : decode cX9_init 74 = .ok (.astore 4, 2) := by decide +kernel
theorem dX9_init_76 : decode cX9_init 76 = .ok (.aload_n 0, 1) := by decide +kernel
theorem dX9_init_77 : decode cX9_init 77 = .ok (.aload_n 1, 1) := by decide +kernel
theorem dX9_init_78 : decode cX9_init 78 = .ok (.putfield 42, 3) := by decide +kernel
theorem dX9_init_81 : decode cX9_init 81 = .ok (.aload_n 0, 1) := by decide +kernel
theorem dX9_init_82 : decode cX9_init 82 = .ok (.aload_n 2, 1) := by decide +kernel
theorem dX9_init_83 : decode cX9_init 83 = .ok (.putfield 46, 3) := by decide +kernel
theorem dX9_init_86 : decode cX9_init 86 = .ok (.aload_n 0, 1) := by decide +kernel
theorem dX9_init_87 : decode cX9_init 87 = .ok (.new 50, 3) := by decide +kernel
theorem dX9_init_90 : decode cX9_init 90 = .ok (.dup, 1) := by decide +kernel
theorem dX9_init_91 : decode cX9_init 91 = .ok (.aload_n 1, 1) := by decide +kernel
theorem dX9_init_92 : decode cX9_init 92 = .ok (.aload_n 2, 1) := by decide +kernel
theorem dX9_init_93 : decode cX9_init 93 = .ok (.invokespecial 52, 3) := by decide +kernel
theorem dX9_init_96 : decode cX9_init 96 = .ok (.putfield 55, 3) := by decide +kernel
theorem dX9_init_99 : decode cX9_init 99 = .ok (.aload_n 0, 1) := by decide +kernel
theorem dX9_init_100 : decode cX9_init 100 = .ok (.aload 4, 2) := by decide +kernel
theorem dX9_init_102 : decode cX9_init 102 = .ok (.putfield 59, 3) := by decide +kernel
theorem dX9_init_105 : decode cX9_init 105 = .ok (.aload_n 0, 1) := by decide +kernel
theorem dX9_init_106 : decode cX9_init 106 = .ok (.new 63, 3) := by decide +kernel
theorem dX9_init_109 : decode cX9_init 109 = .ok (.dup, 1) := by decide +kernel
theorem dX9_init_110 : decode cX9_init 110 = .ok (.aload_n 3, 1) := by decide +kernel
theorem dX9_init_111 : decode cX9_init 111 = .ok (.invokespecial 65, 3) := by decide +kernel
theorem dX9_init_114 : decode cX9_init 114 = .ok (.putfield 66, 3) := by decide +kernel
theorem dX9_init_117 : decode cX9_init 117 = .ok (.aload_n 0, 1) := by decide +kernel
theorem dX9_init_118 : decode cX9_init 118 = .ok (.new 37, 3) := by decide +kernel
theorem dX9_init_121 : decode cX9_init 121 = .ok (.dup, 1) := by decide +kernel
theorem dX9_init_122 : decode cX9_init 122 = .ok (.aload_n 3, 1) := by decide +kernel
theorem dX9_init_123 : decode cX9_init 123 = .ok (.invokespecial 39, 3) := by decide +kernel
theorem dX9_init_126 : decode cX9_init 126 = .ok (.putfield 70, 3) := by decide +kernel
theorem dX9_init_129 : decode cX9_init 129 = .ok (.aload_n 0, 1) := by decide +kernel
theorem dX9_init_130 : decode cX9_init 130 = .ok (.new 63, 3) := by decide +kernel
theorem dX9_init_133 : decode cX9_init 133 = .ok (.dup, 1) := by decide +kernel
theorem dX9_init_134 : decode cX9_init 134 = .ok (.aload_n 3, 1) := by decide +kernel
theorem dX9_init_135 : decode cX9_init 135 = .ok (.invokespecial 65, 3) := by decide +kernel
theorem dX9_init_138 : decode cX9_init 138 = .ok (.putfield 73, 3) := by decide +kernel
theorem dX9_init_141 : decode cX9_init 141 = .ok (.aload_n 0, 1) := by decide +kernel
theorem dX9_init_142 : decode cX9_init 142 = .ok (.new 76, 3) := by decide +kernel
theorem dX9_init_145 : decode cX9_init 145 = .ok (.dup, 1) := by decide +kernel
theorem dX9_init_146 : decode cX9_init 146 = .ok (.aload 4, 2) := by decide +kernel
theorem dX9_init_148 : decode cX9_init 148 = .ok (.invokespecial 78, 3) := by decide +kernel
theorem dX9_init_151 : decode cX9_init 151 = .ok (.putfield 81, 3) := by decide +kernel
theorem dX9_init_154 : decode cX9_init 154 = .ok (.aload_n 0, 1) := by decide +kernel
theorem dX9_init_155 : decode cX9_init 155 = .ok (.new 76, 3) := by decide +kernel
theorem dX9_init_158 : decode cX9_init 158 = .ok (.dup, 1) := by decide +kernel
theorem dX9_init_159 : decode cX9_init 159 = .ok (.aload 4, 2) := by decide +kernel
theorem dX9_init_161 : decode cX9_init 161 = .ok (.invokespecial 78, 3) := by decide +kernel
theorem dX9_init_164 : decode cX9_init 164 = .ok (.putfield 85, 3) := by decide +kernel
theorem dX9_init_167 : decode cX9_init 167 = .ok (.return_, 1) := by decide +kernel
theorem dX9_feed_0 : decode cX9_feed 0 = .ok (.aload_n 0, 1) := by decide +kernel
theorem dX9_feed_1 : decode cX9_feed 1 = .ok (.getfield 88, 3) := by decide +kernel
theorem dX9_feed_4 : decode cX9_feed 4 = .ok (.bipush 20, 2) := by decide +kernel
theorem dX9_feed_6 : decode cX9_feed 6 = .ok (.iadd, 1) := by decide +kernel
theorem dX9_feed_7 : decode cX9_feed 7 = .ok (.sipush 300, 3) := by decide +kernel
theorem dX9_feed_10 : decode cX9_feed 10 = .ok (.if_icmp .le 5, 3) := by decide +kernel
theorem dX9_feed_13 : decode cX9_feed 13 = .ok (.iconst (-1), 1) := by decide +kernel
theorem dX9_feed_14 : decode cX9_feed 14 = .ok (.ireturn, 1) := by decide +kernel
theorem dX9_feed_15 : decode cX9_feed 15 = .ok (.aload_n 0, 1) := by decide +kernel
theorem dX9_feed_16 : decode cX9_feed 16 = .ok (.iload_n 1, 1) := by decide +kernel
theorem dX9_feed_17 : decode cX9_feed 17 = .ok (.invokevirtual 92, 3) := by decide +kernel
theorem dX9_feed_20 : decode cX9_feed 20 = .ok (.aload_n 0, 1) := by decide +kernel
theorem dX9_feed_21 : decode cX9_feed 21 = .ok (.iload_n 2, 1) := by decide +kernel
theorem dX9_feed_22 : decode cX9_feed 22 = .ok (.invokevirtual 92, 3) := by decide +kernel
theorem dX9_feed_25 : decode cX9_feed 25 = .ok (.aload_n 0, 1) := by decide +kernel
theorem dX9_feed_26 : decode cX9_feed 26 = .ok (.iload_n 3, 1) := by decide +kernel
theorem dX9_feed_27 : decode cX9_feed 27 = .ok (.invokevirtual 92, 3) := by decide +kernel
theorem dX9_feed_30 : decode cX9_feed 30 = .ok (.aload_n 0, 1) := by decide +kernel
theorem dX9_feed_31 : decode cX9_feed 31 = .ok (.iload 4, 2) := by decide +kernel
theorem dX9_feed_33 : decode cX9_feed 33 = .ok (.invokevirtual 92, 3) := by decide +kernel
theorem dX9_feed_36 : decode cX9_feed 36 = .ok (.aload_n 0, 1) := by decide +kernel
theorem dX9_feed_37 : decode cX9_feed 37 = .ok (.iload 5, 2) := by decide +kernel
theorem dX9_feed_39 : decode cX9_feed 39 = .ok (.invokevirtual 92, 3) := by decide +kernel
theorem dX9_feed_42 : decode cX9_feed 42 = .ok (.aload_n 0, 1) := by decide +kernel
theorem dX9_feed_43 : decode cX9_feed 43 = .ok (.getfield 88, 3) := by decide +kernel
theorem dX9_feed_46 : decode cX9_feed 46 = .ok (.ireturn, 1) := by decide +kernel
theorem dX9_end_0 : decode cX9_end 0 = .ok (.iload_n 1, 1) := by decide +kernel
theorem dX9_end_1 : decode cX9_end 1 = .ok (.ifCond .lt 11, 3) := by decide +kernel
theorem dX9_end_4 : decode cX9_end 4 = .ok (.iload_n 1, 1) := by decide +kernel
theorem dX9_end_5 : decode cX9_end 5 = .ok (.aload_n 0, 1) := by decide +kernel
theorem dX9_end_6 : decode cX9_end 6 = .ok (.getfield 88, 3) := by decide +kernel
theorem dX9_end_9 : decode cX9_end 9 = .ok (.if_icmp .le 5, 3) := by decide +kernel
theorem dX9_end_12 : decode cX9_end 12 = .ok (.iconst (-1), 1) := by decide +kernel
theorem dX9_end_13 : decode cX9_end 13 = .ok (.ireturn, 1) := by decide +kernel
theorem dX9_end_14 : decode cX9_end 14 = .ok (.aload_n 0, 1) := by decide +kernel
theorem dX9_end_15 : decode cX9_end 15 = .ok (.iload_n 1, 1) := by decide +kernel
theorem dX9_end_16 : decode cX9_end 16 = .ok (.putfield 88, 3) := by decide +kernel
theorem dX9_end_19 : decode cX9_end 19 = .ok (.iload_n 1, 1) := by decide +kernel
theorem dX9_end_20 : decode cX9_end 20 = .ok (.ireturn, 1) := by decide +kernel
theorem dX9_text_0 : decode cX9_text 0 = .ok (.aload_n 0, 1) := by decide +kernel
theorem dX9_text_1 : decode cX9_text 1 = .ok (.getfield 88, 3) := by decide +kernel
theorem dX9_text_4 : decode cX9_text 4 = .ok (.istore_n 1, 1) := by decide +kernel
theorem dX9_text_5 : decode cX9_text 5 = .ok (.aload_n 0, 1) := by decide +kernel
theorem dX9_text_6 : decode cX9_text 6 = .ok (.iconst 0, 1) := by decide +kernel
theorem dX9_text_7 : decode cX9_text 7 = .ok (.putfield 88, 3) := by decide +kernel
theorem dX9_text_10 : decode cX9_text 10 = .ok (.iload_n 1, 1) := by decide +kernel
theorem dX9_text_11 : decode cX9_text 11 = .ok (.sipush 200, 3) := by decide +kernel
theorem dX9_text_14 : decode cX9_text 14 = .ok (.if_icmp .le 5, 3) := by decide +kernel
theorem dX9_text_17 : decode cX9_text 17 = .ok (.iconst (-1), 1) := by decide +kernel
theorem dX9_text_18 : decode cX9_text 18 = .ok (.ireturn, 1) := by decide +kernel
theorem dX9_text_19 : decode cX9_text 19 = .ok (.iconst 0, 1) := by decide +kernel
theorem dX9_text_20 : decode cX9_text 20 = .ok (.istore_n 2, 1) := by decide +kernel
theorem dX9_text_21 : decode cX9_text 21 = .ok (.iload_n 2, 1) := by decide +kernel
theorem dX9_text_22 : decode cX9_text 22 = .ok (.iload_n 1, 1) := by decide +kernel
theorem dX9_text_23 : decode cX9_text 23 = .ok (.if_icmp .ge 23, 3) := by decide +kernel
theorem dX9_text_26 : decode cX9_text 26 = .ok (.aload_n 0, 1) := by decide +kernel
theorem dX9_text_27 : decode cX9_text 27 = .ok (.getfield 42, 3) := by decide +kernel
theorem dX9_text_30 : decode cX9_text 30 = .ok (.iload_n 2, 1) := by decide +kernel
theorem dX9_text_31 : decode cX9_text 31 = .ok (.baload, 1) := by decide +kernel
theorem dX9_text_32 : decode cX9_text 32 = .ok (.invokestatic 96, 3) := by decide +kernel
theorem dX9_text_35 : decode cX9_text 35 = .ok (.ifCond .ne 5, 3) := by decide +kernel
theorem dX9_text_38 : decode cX9_text 38 = .ok (.iconst (-1), 1) := by decide +kernel
theorem dX9_text_39 : decode cX9_text 39 = .ok (.ireturn, 1) := by decide +kernel
theorem dX9_text_40 : decode cX9_text 40 = .ok (.iinc 2 1, 3) := by decide +kernel
theorem dX9_text_43 : decode cX9_text 43 = .ok (.goto (-22), 3) := by decide +kernel
theorem dX9_text_46 : decode cX9_text 46 = .ok (.aload_n 0, 1) := by decide +kernel
theorem dX9_text_47 : decode cX9_text 47 = .ok (.invokevirtual 100, 3) := by decide +kernel
theorem dX9_text_50 : decode cX9_text 50 = .ok (.aload_n 0, 1) := by decide +kernel
theorem dX9_text_51 : decode cX9_text 51 = .ok (.getfield 59, 3) := by decide +kernel
theorem dX9_text_54 : decode cX9_text 54 = .ok (.getfield 103, 3) := by decide +kernel
theorem dX9_text_57 : decode cX9_text 57 = .ok (.aload_n 0, 1) := by decide +kernel
theorem dX9_text_58 : decode cX9_text 58 = .ok (.getfield 42, 3) := by decide +kernel
theorem dX9_text_61 : decode cX9_text 61 = .ok (.iload_n 1, 1) := by decide +kernel
theorem dX9_text_62 : decode cX9_text 62 = .ok (.invokevirtual 106, 3) := by decide +kernel
theorem dX9_text_65 : decode cX9_text 65 = .ok (.iload_n 1, 1) := by decide +kernel
theorem dX9_text_66 : decode cX9_text 66 = .ok (.ireturn, 1) := by decide +kernel
theorem dX9_rules_0 : decode cX9_rules 0 = .ok (.aload_n 0, 1) := by decide +kernel
theorem dX9_rules_1 : decode cX9_rules 1 = .ok (.getfield 88, 3) := by decide +kernel
theorem dX9_rules_4 : decode cX9_rules 4 = .ok (.istore_n 1, 1) := by decide +kernel
theorem dX9_rules_5 : decode cX9_rules 5 = .ok (.aload_n 0, 1) := by decide +kernel
theorem dX9_rules_6 : decode cX9_rules 6 = .ok (.iconst 0, 1) := by decide +kernel
theorem dX9_rules_7 : decode cX9_rules 7 = .ok (.putfield 88, 3) := by decide +kernel
theorem dX9_rules_10 : decode cX9_rules 10 = .ok (.aload_n 0, 1) := by decide +kernel
theorem dX9_rules_11 : decode cX9_rules 11 = .ok (.getfield 55, 3) := by decide +kernel
theorem dX9_rules_14 : decode cX9_rules 14 = .ok (.iload_n 1, 1) := by decide +kernel
theorem dX9_rules_15 : decode cX9_rules 15 = .ok (.aload_n 0, 1) := by decide +kernel
theorem dX9_rules_16 : decode cX9_rules 16 = .ok (.getfield 46, 3) := by decide +kernel
theorem dX9_rules_19 : decode cX9_rules 19 = .ok (.invokevirtual 110, 3) := by decide +kernel
theorem dX9_rules_22 : decode cX9_rules 22 = .ok (.ifCond .ne 5, 3) := by decide +kernel
theorem dX9_rules_25 : decode cX9_rules 25 = .ok (.iconst (-1), 1) := by decide +kernel
theorem dX9_rules_26 : decode cX9_rules 26 = .ok (.ireturn, 1) := by decide +kernel
theorem dX9_rules_27 : decode cX9_rules 27 = .ok (.aload_n 0, 1) := by decide +kernel
theorem dX9_rules_28 : decode cX9_rules 28 = .ok (.invokevirtual 100, 3) := by decide +kernel
theorem dX9_rules_31 : decode cX9_rules 31 = .ok (.aload_n 0, 1) := by decide +kernel
theorem dX9_rules_32 : decode cX9_rules 32 = .ok (.getfield 59, 3) := by decide +kernel
theorem dX9_rules_35 : decode cX9_rules 35 = .ok (.aload_n 0, 1) := by decide +kernel
theorem dX9_rules_36 : decode cX9_rules 36 = .ok (.getfield 46, 3) := by decide +kernel
theorem dX9_rules_39 : decode cX9_rules 39 = .ok (.invokevirtual 114, 3) := by decide +kernel
theorem dX9_rules_42 : decode cX9_rules 42 = .ok (.aload_n 0, 1) := by decide +kernel
theorem dX9_rules_43 : decode cX9_rules 43 = .ok (.new 34, 3) := by decide +kernel
theorem dX9_rules_46 : decode cX9_rules 46 = .ok (.dup, 1) := by decide +kernel
theorem dX9_rules_47 : decode cX9_rules 47 = .ok (.invokespecial 36, 3) := by decide +kernel
theorem dX9_rules_50 : decode cX9_rules 50 = .ok (.putfield 46, 3) := by decide +kernel
theorem dX9_rules_53 : decode cX9_rules 53 = .ok (.aload_n 0, 1) := by decide +kernel
theorem dX9_rules_54 : decode cX9_rules 54 = .ok (.getfield 59, 3) := by decide +kernel
theorem dX9_rules_57 : decode cX9_rules 57 = .ok (.getfield 117, 3) := by decide +kernel
theorem dX9_rules_60 : decode cX9_rules 60 = .ok (.getfield 120, 3) := by decide +kernel
theorem dX9_rules_63 : decode cX9_rules 63 = .ok (.ireturn, 1) := by decide +kernel
theorem dX9_fault_0 : decode cX9_fault 0 = .ok (.iload_n 1, 1) := by decide +kernel
theorem dX9_fault_1 : decode cX9_fault 1 = .ok (.ifCond .ne 11, 3) := by decide +kernel
theorem dX9_fault_4 : decode cX9_fault 4 = .ok (.aload_n 0, 1) := by decide +kernel
theorem dX9_fault_5 : decode cX9_fault 5 = .ok (.getfield 55, 3) := by decide +kernel
theorem dX9_fault_8 : decode cX9_fault 8 = .ok (.getfield 123, 3) := by decide +kernel
theorem dX9_fault_11 : decode cX9_fault 11 = .ok (.ireturn, 1) := by decide +kernel
theorem dX9_fault_12 : decode cX9_fault 12 = .ok (.iload_n 1, 1) := by decide +kernel
theorem dX9_fault_13 : decode cX9_fault 13 = .ok (.iconst 1, 1) := by decide +kernel
theorem dX9_fault_14 : decode cX9_fault 14 = .ok (.if_icmp .ne 13, 3) := by decide +kernel
theorem dX9_fault_17 : decode cX9_fault 17 = .ok (.aload_n 0, 1) := by decide +kernel
theorem dX9_fault_18 : decode cX9_fault 18 = .ok (.getfield 55, 3) := by decide +kernel
theorem dX9_fault_21 : decode cX9_fault 21 = .ok (.getfield 126, 3) := by decide +kernel
theorem dX9_fault_24 : decode cX9_fault 24 = .ok (.goto 4, 3) := by decide +kernel
theorem dX9_fault_27 : decode cX9_fault 27 = .ok (.iconst (-1), 1) := by decide +kernel
theorem dX9_fault_28 : decode cX9_fault 28 = .ok (.ireturn, 1) := by decide +kernel
theorem dX9_on_0 : decode cX9_on 0 = .ok (.aload_n 0, 1) := by decide +kernel
theorem dX9_on_1 : decode cX9_on 1 = .ok (.iload_n 1, 1) := by decide +kernel
theorem dX9_on_2 : decode cX9_on 2 = .ok (.invokevirtual 129, 3) := by decide +kernel
theorem dX9_on_5 : decode cX9_on 5 = .ok (.ifCond .eq 15, 3) := by decide +kernel
theorem dX9_on_8 : decode cX9_on 8 = .ok (.aload_n 0, 1) := by decide +kernel
theorem dX9_on_9 : decode cX9_on 9 = .ok (.getfield 59, 3) := by decide +kernel
theorem dX9_on_12 : decode cX9_on 12 = .ok (.iload_n 1, 1) := by decide +kernel
theorem dX9_on_13 : decode cX9_on 13 = .ok (.invokevirtual 132, 3) := by decide +kernel
theorem dX9_on_16 : decode cX9_on 16 = .ok (.iload_n 2, 1) := by decide +kernel
theorem dX9_on_17 : decode cX9_on 17 = .ok (.if_icmp .ne 5, 3) := by decide +kernel
theorem dX9_on_20 : decode cX9_on 20 = .ok (.iconst 0, 1) := by decide +kernel
theorem dX9_on_21 : decode cX9_on 21 = .ok (.ireturn, 1) := by decide +kernel
theorem dX9_on_22 : decode cX9_on 22 = .ok (.aload_n 0, 1) := by decide +kernel
theorem dX9_on_23 : decode cX9_on 23 = .ok (.invokevirtual 100, 3) := by decide +kernel
theorem dX9_on_26 : decode cX9_on 26 = .ok (.aload_n 0, 1) := by decide +kernel
theorem dX9_on_27 : decode cX9_on 27 = .ok (.getfield 59, 3) := by decide +kernel
theorem dX9_on_30 : decode cX9_on 30 = .ok (.aload_n 0, 1) := by decide +kernel
theorem dX9_on_31 : decode cX9_on 31 = .ok (.getfield 59, 3) := by decide +kernel
theorem dX9_on_34 : decode cX9_on 34 = .ok (.getfield 135, 3) := by decide +kernel
theorem dX9_on_37 : decode cX9_on 37 = .ok (.iconst 1, 1) := by decide +kernel
theorem dX9_on_38 : decode cX9_on 38 = .ok (.iload_n 1, 1) := by decide +kernel
theorem dX9_on_39 : decode cX9_on 39 = .ok (.ishl, 1) := by decide +kernel
theorem dX9_on_40 : decode cX9_on 40 = .ok (.ixor, 1) := by decide +kernel
theorem dX9_on_41 : decode cX9_on 41 = .ok (.putfield 135, 3) := by decide +kernel
theorem dX9_on_44 : decode cX9_on 44 = .ok (.iconst 1, 1) := by decide +kernel
theorem dX9_on_45 : decode cX9_on 45 = .ok (.ireturn, 1) := by decide +kernel
theorem dX9_silence_0 : decode cX9_silence 0 = .ok (.aload_n 0, 1) := by decide +kernel
theorem dX9_silence_1 : decode cX9_silence 1 = .ok (.getfield 59, 3) := by decide +kernel
theorem dX9_silence_4 : decode cX9_silence 4 = .ok (.getfield 103, 3) := by decide +kernel
theorem dX9_silence_7 : decode cX9_silence 7 = .ok (.astore_n 3, 1) := by decide +kernel
theorem dX9_silence_8 : decode cX9_silence 8 = .ok (.iload_n 1, 1) := by decide +kernel
theorem dX9_silence_9 : decode cX9_silence 9 = .ok (.ifCond .lt 25, 3) := by decide +kernel
theorem dX9_silence_12 : decode cX9_silence 12 = .ok (.iload_n 1, 1) := by decide +kernel
theorem dX9_silence_13 : decode cX9_silence 13 = .ok (.iload_n 2, 1) := by decide +kernel
theorem dX9_silence_14 : decode cX9_silence 14 = .ok (.if_icmp .ge 20, 3) := by decide +kernel
theorem dX9_silence_17 : decode cX9_silence 17 = .ok (.iload_n 2, 1) := by decide +kernel
theorem dX9_silence_18 : decode cX9_silence 18 = .ok (.aload_n 3, 1) := by decide +kernel
theorem dX9_silence_19 : decode cX9_silence 19 = .ok (.getfield 138, 3) := by decide +kernel
theorem dX9_silence_22 : decode cX9_silence 22 = .ok (.if_icmp .gt 12, 3) := by decide +kernel
theorem dX9_silence_25 : decode cX9_silence 25 = .ok (.aload_n 3, 1) := by decide +kernel
theorem dX9_silence_26 : decode cX9_silence 26 = .ok (.getfield 141, 3) := by decide +kernel
theorem dX9_silence_29 : decode cX9_silence 29 = .ok (.bipush 8, 2) := by decide +kernel
theorem dX9_silence_31 : decode cX9_silence 31 = .ok (.if_icmp .lt 5, 3) := by decide +kernel
theorem dX9_silence_34 : decode cX9_silence 34 = .ok (.iconst (-1), 1) := by decide +kernel
theorem dX9_silence_35 : decode cX9_silence 35 = .ok (.ireturn, 1) := by decide +kernel
theorem dX9_silence_36 : decode cX9_silence 36 = .ok (.aload_n 0, 1) := by decide +kernel
theorem dX9_silence_37 : decode cX9_silence 37 = .ok (.invokevirtual 100, 3) := by decide +kernel
theorem dX9_silence_40 : decode cX9_silence 40 = .ok (.aload_n 3, 1) := by decide +kernel
theorem dX9_silence_41 : decode cX9_silence 41 = .ok (.iload_n 1, 1) := by decide +kernel
theorem dX9_silence_42 : decode cX9_silence 42 = .ok (.iload_n 2, 1) := by decide +kernel
theorem dX9_silence_43 : decode cX9_silence 43 = .ok (.invokevirtual 144, 3) := by decide +kernel
theorem dX9_silence_46 : decode cX9_silence 46 = .ok (.aload_n 3, 1) := by decide +kernel
theorem dX9_silence_47 : decode cX9_silence 47 = .ok (.getfield 141, 3) := by decide +kernel
theorem dX9_silence_50 : decode cX9_silence 50 = .ok (.ireturn, 1) := by decide +kernel
theorem dX9_hear_0 : decode cX9_hear 0 = .ok (.iload_n 1, 1) := by decide +kernel
theorem dX9_hear_1 : decode cX9_hear 1 = .ok (.ifCond .lt 17, 3) := by decide +kernel
theorem dX9_hear_4 : decode cX9_hear 4 = .ok (.iload_n 1, 1) := by decide +kernel
theorem dX9_hear_5 : decode cX9_hear 5 = .ok (.aload_n 0, 1) := by decide +kernel
theorem dX9_hear_6 : decode cX9_hear 6 = .ok (.getfield 59, 3) := by decide +kernel
theorem dX9_hear_9 : decode cX9_hear 9 = .ok (.getfield 103, 3) := by decide +kernel
theorem dX9_hear_12 : decode cX9_hear 12 = .ok (.getfield 141, 3) := by decide +kernel
theorem dX9_hear_15 : decode cX9_hear 15 = .ok (.if_icmp .lt 5, 3) := by decide +kernel
theorem dX9_hear_18 : decode cX9_hear 18 = .ok (.iconst 0, 1) := by decide +kernel
theorem dX9_hear_19 : decode cX9_hear 19 = .ok (.ireturn, 1) := by decide +kernel
theorem dX9_hear_20 : decode cX9_hear 20 = .ok (.aload_n 0, 1) := by decide +kernel
theorem dX9_hear_21 : decode cX9_hear 21 = .ok (.invokevirtual 100, 3) := by decide +kernel
theorem dX9_hear_24 : decode cX9_hear 24 = .ok (.aload_n 0, 1) := by decide +kernel
theorem dX9_hear_25 : decode cX9_hear 25 = .ok (.getfield 59, 3) := by decide +kernel
theorem dX9_hear_28 : decode cX9_hear 28 = .ok (.getfield 103, 3) := by decide +kernel
theorem dX9_hear_31 : decode cX9_hear 31 = .ok (.iload_n 1, 1) := by decide +kernel
theorem dX9_hear_32 : decode cX9_hear 32 = .ok (.invokevirtual 148, 3) := by decide +kernel
theorem dX9_hear_35 : decode cX9_hear 35 = .ok (.iconst 1, 1) := by decide +kernel
theorem dX9_hear_36 : decode cX9_hear 36 = .ok (.ireturn, 1) := by decide +kernel
theorem dX9_measure_0 : decode cX9_measure 0 = .ok (.iload_n 1, 1) := by decide +kernel
theorem dX9_measure_1 : decode cX9_measure 1 = .ok (.ifCond .lt 8, 3) := by decide +kernel
theorem dX9_measure_4 : decode cX9_measure 4 = .ok (.iload_n 1, 1) := by decide +kernel
theorem dX9_measure_5 : decode cX9_measure 5 = .ok (.iconst 1, 1) := by decide +kernel
theorem dX9_measure_6 : decode cX9_measure 6 = .ok (.if_icmp .le 5, 3) := by decide +kernel
theorem dX9_measure_9 : decode cX9_measure 9 = .ok (.iconst 0, 1) := by decide +kernel
theorem dX9_measure_10 : decode cX9_measure 10 = .ok (.ireturn, 1) := by decide +kernel
theorem dX9_measure_11 : decode cX9_measure 11 = .ok (.aload_n 0, 1) := by decide +kernel
theorem dX9_measure_12 : decode cX9_measure 12 = .ok (.invokevirtual 100, 3) := by decide +kernel
theorem dX9_measure_15 : decode cX9_measure 15 = .ok (.aload_n 0, 1) := by decide +kernel
theorem dX9_measure_16 : decode cX9_measure 16 = .ok (.getfield 59, 3) := by decide +kernel
theorem dX9_measure_19 : decode cX9_measure 19 = .ok (.iload_n 1, 1) := by decide +kernel
theorem dX9_measure_20 : decode cX9_measure 20 = .ok (.putfield 151, 3) := by decide +kernel
theorem dX9_measure_23 : decode cX9_measure 23 = .ok (.iconst 1, 1) := by decide +kernel
theorem dX9_measure_24 : decode cX9_measure 24 = .ok (.ireturn, 1) := by decide +kernel
theorem dX9_most_0 : decode cX9_most 0 = .ok (.iload_n 1, 1) := by decide +kernel
theorem dX9_most_1 : decode cX9_most 1 = .ok (.ifCond .lt 9, 3) := by decide +kernel
theorem dX9_most_4 : decode cX9_most 4 = .ok (.iload_n 1, 1) := by decide +kernel
theorem dX9_most_5 : decode cX9_most 5 = .ok (.bipush 20, 2) := by decide +kernel
theorem dX9_most_7 : decode cX9_most 7 = .ok (.if_icmp .le 5, 3) := by decide +kernel
theorem dX9_most_10 : decode cX9_most 10 = .ok (.iconst 0, 1) := by decide +kernel
theorem dX9_most_11 : decode cX9_most 11 = .ok (.ireturn, 1) := by decide +kernel
theorem dX9_most_12 : decode cX9_most 12 = .ok (.aload_n 0, 1) := by decide +kernel
theorem dX9_most_13 : decode cX9_most 13 = .ok (.invokevirtual 100, 3) := by decide +kernel
theorem dX9_most_16 : decode cX9_most 16 = .ok (.aload_n 0, 1) := by decide +kernel
theorem dX9_most_17 : decode cX9_most 17 = .ok (.getfield 59, 3) := by decide +kernel
theorem dX9_most_20 : decode cX9_most 20 = .ok (.iload_n 1, 1) := by decide +kernel
theorem dX9_most_21 : decode cX9_most 21 = .ok (.putfield 154, 3) := by decide +kernel
theorem dX9_most_24 : decode cX9_most 24 = .ok (.iconst 1, 1) := by decide +kernel
theorem dX9_most_25 : decode cX9_most 25 = .ok (.ireturn, 1) := by decide +kernel
theorem dX9_put_0 : decode cX9_put 0 = .ok (.aload_n 0, 1) := by decide +kernel
theorem dX9_put_1 : decode cX9_put 1 = .ok (.getfield 59, 3) := by decide +kernel
theorem dX9_put_4 : decode cX9_put 4 = .ok (.getfield 103, 3) := by decide +kernel
theorem dX9_put_7 : decode cX9_put 7 = .ok (.astore_n 3, 1) := by decide +kernel
theorem dX9_put_8 : decode cX9_put 8 = .ok (.aload_n 0, 1) := by decide +kernel
theorem dX9_put_9 : decode cX9_put 9 = .ok (.iload_n 1, 1) := by decide +kernel
theorem dX9_put_10 : decode cX9_put 10 = .ok (.invokevirtual 157, 3) := by decide +kernel
theorem dX9_put_13 : decode cX9_put 13 = .ok (.ifCond .eq 21, 3) := by decide +kernel
theorem dX9_put_16 : decode cX9_put 16 = .ok (.iload_n 2, 1) := by decide +kernel
theorem dX9_put_17 : decode cX9_put 17 = .ok (.invokestatic 96, 3) := by decide +kernel
theorem dX9_put_20 : decode cX9_put 20 = .ok (.ifCond .eq 14, 3) := by decide +kernel
theorem dX9_put_23 : decode cX9_put 23 = .ok (.aload_n 3, 1) := by decide +kernel
theorem dX9_put_24 : decode cX9_put 24 = .ok (.iload_n 1, 1) := by decide +kernel
theorem dX9_put_25 : decode cX9_put 25 = .ok (.iload_n 1, 1) := by decide +kernel
theorem dX9_put_26 : decode cX9_put 26 = .ok (.iconst 1, 1) := by decide +kernel
theorem dX9_put_27 : decode cX9_put 27 = .ok (.iadd, 1) := by decide +kernel
theorem dX9_put_28 : decode cX9_put 28 = .ok (.invokevirtual 160, 3) := by decide +kernel
theorem dX9_put_31 : decode cX9_put 31 = .ok (.ifCond .eq 5, 3) := by decide +kernel
theorem dX9_put_34 : decode cX9_put 34 = .ok (.iconst 0, 1) := by decide +kernel
theorem dX9_put_35 : decode cX9_put 35 = .ok (.ireturn, 1) := by decide +kernel
theorem dX9_put_36 : decode cX9_put 36 = .ok (.aload_n 0, 1) := by decide +kernel
theorem dX9_put_37 : decode cX9_put 37 = .ok (.invokevirtual 100, 3) := by decide +kernel
theorem dX9_put_40 : decode cX9_put 40 = .ok (.aload_n 3, 1) := by decide +kernel
theorem dX9_put_41 : decode cX9_put 41 = .ok (.getfield 164, 3) := by decide +kernel
theorem dX9_put_44 : decode cX9_put 44 = .ok (.iload_n 1, 1) := by decide +kernel
theorem dX9_put_45 : decode cX9_put 45 = .ok (.iload_n 2, 1) := by decide +kernel
theorem dX9_put_46 : decode cX9_put 46 = .ok (.i2b, 1) := by decide +kernel
theorem dX9_put_47 : decode cX9_put 47 = .ok (.bastore, 1) := by decide +kernel
theorem dX9_put_48 : decode cX9_put 48 = .ok (.aload_n 3, 1) := by decide +kernel
theorem dX9_put_49 : decode cX9_put 49 = .ok (.getfield 167, 3) := by decide +kernel
theorem dX9_put_52 : decode cX9_put 52 = .ok (.iload_n 1, 1) := by decide +kernel
theorem dX9_put_53 : decode cX9_put 53 = .ok (.iconst (-1), 1) := by decide +kernel
theorem dX9_put_54 : decode cX9_put 54 = .ok (.bastore, 1) := by decide +kernel
theorem dX9_put_55 : decode cX9_put 55 = .ok (.iconst 1, 1) := by decide +kernel
theorem dX9_put_56 : decode cX9_put 56 = .ok (.ireturn, 1) := by decide +kernel
theorem dX9_yields_0 : decode cX9_yields 0 = .ok (.aload_n 0, 1) := by decide +kernel
theorem dX9_yields_1 : decode cX9_yields 1 = .ok (.iload_n 1, 1) := by decide +kernel
theorem dX9_yields_2 : decode cX9_yields 2 = .ok (.invokevirtual 129, 3) := by decide +kernel
theorem dX9_yields_5 : decode cX9_yields 5 = .ok (.ifCond .eq 23, 3) := by decide +kernel
theorem dX9_yields_8 : decode cX9_yields 8 = .ok (.aload_n 0, 1) := by decide +kernel
theorem dX9_yields_9 : decode cX9_yields 9 = .ok (.iload_n 2, 1) := by decide +kernel
theorem dX9_yields_10 : decode cX9_yields 10 = .ok (.invokevirtual 129, 3) := by decide +kernel
theorem dX9_yields_13 : decode cX9_yields 13 = .ok (.ifCond .eq 15, 3) := by decide +kernel
theorem dX9_yields_16 : decode cX9_yields 16 = .ok (.aload_n 0, 1) := by decide +kernel
theorem dX9_yields_17 : decode cX9_yields 17 = .ok (.getfield 59, 3) := by decide +kernel
theorem dX9_yields_20 : decode cX9_yields 20 = .ok (.getfield 170, 3) := by decide +kernel
theorem dX9_yields_23 : decode cX9_yields 23 = .ok (.bipush 8, 2) := by decide +kernel
theorem dX9_yields_25 : decode cX9_yields 25 = .ok (.if_icmp .lt 5, 3) := by decide +kernel
theorem dX9_yields_28 : decode cX9_yields 28 = .ok (.iconst 0, 1) := by decide +kernel
theorem dX9_yields_29 : decode cX9_yields 29 = .ok (.ireturn, 1) := by decide +kernel
theorem dX9_yields_30 : decode cX9_yields 30 = .ok (.aload_n 0, 1) := by decide +kernel
theorem dX9_yields_31 : decode cX9_yields 31 = .ok (.getfield 59, 3) := by decide +kernel
theorem dX9_yields_34 : decode cX9_yields 34 = .ok (.iload_n 1, 1) := by decide +kernel
theorem dX9_yields_35 : decode cX9_yields 35 = .ok (.iload_n 2, 1) := by decide +kernel
theorem dX9_yields_36 : decode cX9_yields 36 = .ok (.invokevirtual 173, 3) := by decide +kernel
theorem dX9_yields_39 : decode cX9_yields 39 = .ok (.ifCond .ne 15, 3) := by decide +kernel
theorem dX9_yields_42 : decode cX9_yields 42 = .ok (.aload_n 0, 1) := by decide +kernel
theorem dX9_yields_43 : decode cX9_yields 43 = .ok (.getfield 59, 3) := by decide +kernel
theorem dX9_yields_46 : decode cX9_yields 46 = .ok (.iload_n 1, 1) := by decide +kernel
theorem dX9_yields_47 : decode cX9_yields 47 = .ok (.iload_n 2, 1) := by decide +kernel
theorem dX9_yields_48 : decode cX9_yields 48 = .ok (.invokevirtual 176, 3) := by decide +kernel
theorem dX9_yields_51 : decode cX9_yields 51 = .ok (.ifCond .eq 5, 3) := by decide +kernel
theorem dX9_yields_54 : decode cX9_yields 54 = .ok (.iconst 0, 1) := by decide +kernel
theorem dX9_yields_55 : decode cX9_yields 55 = .ok (.ireturn, 1) := by decide +kernel
theorem dX9_yields_56 : decode cX9_yields 56 = .ok (.aload_n 0, 1) := by decide +kernel
theorem dX9_yields_57 : decode cX9_yields 57 = .ok (.invokevirtual 100, 3) := by decide +kernel
theorem dX9_yields_60 : decode cX9_yields 60 = .ok (.aload_n 0, 1) := by decide +kernel
theorem dX9_yields_61 : decode cX9_yields 61 = .ok (.getfield 59, 3) := by decide +kernel
theorem dX9_yields_64 : decode cX9_yields 64 = .ok (.iload_n 1, 1) := by decide +kernel
theorem dX9_yields_65 : decode cX9_yields 65 = .ok (.iload_n 2, 1) := by decide +kernel
theorem dX9_yields_66 : decode cX9_yields 66 = .ok (.invokevirtual 179, 3) := by decide +kernel
theorem dX9_yields_69 : decode cX9_yields 69 = .ok (.iconst 1, 1) := by decide +kernel
theorem dX9_yields_70 : decode cX9_yields 70 = .ok (.ireturn, 1) := by decide +kernel
theorem dX9_insist_0 : decode cX9_insist 0 = .ok (.aload_n 0, 1) := by decide +kernel
theorem dX9_insist_1 : decode cX9_insist 1 = .ok (.getfield 59, 3) := by decide +kernel
theorem dX9_insist_4 : decode cX9_insist 4 = .ok (.getfield 170, 3) := by decide +kernel
theorem dX9_insist_7 : decode cX9_insist 7 = .ok (.istore_n 1, 1) := by decide +kernel
theorem dX9_insist_8 : decode cX9_insist 8 = .ok (.aload_n 0, 1) := by decide +kernel
theorem dX9_insist_9 : decode cX9_insist 9 = .ok (.invokevirtual 100, 3) := by decide +kernel
theorem dX9_insist_12 : decode cX9_insist 12 = .ok (.aload_n 0, 1) := by decide +kernel
theorem dX9_insist_13 : decode cX9_insist 13 = .ok (.getfield 59, 3) := by decide +kernel
theorem dX9_insist_16 : decode cX9_insist 16 = .ok (.iconst 0, 1) := by decide +kernel
theorem dX9_insist_17 : decode cX9_insist 17 = .ok (.putfield 170, 3) := by decide +kernel
theorem dX9_insist_20 : decode cX9_insist 20 = .ok (.iload_n 1, 1) := by decide +kernel
theorem dX9_insist_21 : decode cX9_insist 21 = .ok (.ireturn, 1) := by decide +kernel
theorem dX9_apply_0 : decode cX9_apply 0 = .ok (.aload_n 0, 1) := by decide +kernel
theorem dX9_apply_1 : decode cX9_apply 1 = .ok (.invokevirtual 182, 3) := by decide +kernel
theorem dX9_apply_4 : decode cX9_apply 4 = .ok (.astore_n 2, 1) := by decide +kernel
theorem dX9_apply_5 : decode cX9_apply 5 = .ok (.aload_n 2, 1) := by decide +kernel
theorem dX9_apply_6 : decode cX9_apply 6 = .ok (.iload_n 1, 1) := by decide +kernel
theorem dX9_apply_7 : decode cX9_apply 7 = .ok (.invokevirtual 186, 3) := by decide +kernel
theorem dX9_apply_10 : decode cX9_apply 10 = .ok (.ifCond .eq 12, 3) := by decide +kernel
theorem dX9_apply_13 : decode cX9_apply 13 = .ok (.aload_n 2, 1) := by decide +kernel
theorem dX9_apply_14 : decode cX9_apply 14 = .ok (.iload_n 1, 1) := by decide +kernel
theorem dX9_apply_15 : decode cX9_apply 15 = .ok (.iconst 1, 1) := by decide +kernel
theorem dX9_apply_16 : decode cX9_apply 16 = .ok (.invokevirtual 189, 3) := by decide +kernel
theorem dX9_apply_19 : decode cX9_apply 19 = .ok (.ifCond .eq 5, 3) := by decide +kernel
theorem dX9_apply_22 : decode cX9_apply 22 = .ok (.iconst (-1), 1) := by decide +kernel
theorem dX9_apply_23 : decode cX9_apply 23 = .ok (.ireturn, 1) := by decide +kernel
theorem dX9_apply_24 : decode cX9_apply 24 = .ok (.aload_n 0, 1) := by decide +kernel
theorem dX9_apply_25 : decode cX9_apply 25 = .ok (.getfield 30, 3) := by decide +kernel
theorem dX9_apply_28 : decode cX9_apply 28 = .ok (.iconst 0, 1) := by decide +kernel
theorem dX9_apply_29 : decode cX9_apply 29 = .ok (.iload_n 1, 1) := by decide +kernel
theorem dX9_apply_30 : decode cX9_apply 30 = .ok (.iastore, 1) := by decide +kernel
theorem dX9_apply_31 : decode cX9_apply 31 = .ok (.aload_n 2, 1) := by decide +kernel
theorem dX9_apply_32 : decode cX9_apply 32 = .ok (.aload_n 0, 1) := by decide +kernel
theorem dX9_apply_33 : decode cX9_apply 33 = .ok (.getfield 30, 3) := by decide +kernel
theorem dX9_apply_36 : decode cX9_apply 36 = .ok (.iconst 1, 1) := by decide +kernel
theorem dX9_apply_37 : decode cX9_apply 37 = .ok (.invokevirtual 192, 3) := by decide +kernel
theorem dX9_apply_40 : decode cX9_apply 40 = .ok (.sipush 200, 3) := by decide +kernel
theorem dX9_apply_43 : decode cX9_apply 43 = .ok (.if_icmp .le 5, 3) := by decide +kernel
theorem dX9_apply_46 : decode cX9_apply 46 = .ok (.iconst (-1), 1) := by decide +kernel
theorem dX9_apply_47 : decode cX9_apply 47 = .ok (.ireturn, 1) := by decide +kernel
theorem dX9_apply_48 : decode cX9_apply 48 = .ok (.aload_n 2, 1) := by decide +kernel
theorem dX9_apply_49 : decode cX9_apply 49 = .ok (.aload_n 0, 1) := by decide +kernel
theorem dX9_apply_50 : decode cX9_apply 50 = .ok (.getfield 30, 3) := by decide +kernel
theorem dX9_apply_53 : decode cX9_apply 53 = .ok (.iconst 1, 1) := by decide +kernel
theorem dX9_apply_54 : decode cX9_apply 54 = .ok (.aload_n 0, 1) := by decide +kernel
theorem dX9_apply_55 : decode cX9_apply 55 = .ok (.getfield 12, 3) := by decide +kernel
theorem dX9_apply_58 : decode cX9_apply 58 = .ok (.invokevirtual 196, 3) := by decide +kernel
theorem dX9_apply_61 : decode cX9_apply 61 = .ok (.aload_n 0, 1) := by decide +kernel
theorem dX9_apply_62 : decode cX9_apply 62 = .ok (.invokevirtual 100, 3) := by decide +kernel
theorem dX9_apply_65 : decode cX9_apply 65 = .ok (.aload_n 0, 1) := by decide +kernel
theorem dX9_apply_66 : decode cX9_apply 66 = .ok (.getfield 59, 3) := by decide +kernel
theorem dX9_apply_69 : decode cX9_apply 69 = .ok (.getfield 103, 3) := by decide +kernel
theorem dX9_apply_72 : decode cX9_apply 72 = .ok (.aload_n 0, 1) := by decide +kernel
theorem dX9_apply_73 : decode cX9_apply 73 = .ok (.getfield 12, 3) := by decide +kernel
theorem dX9_apply_76 : decode cX9_apply 76 = .ok (.invokevirtual 200, 3) := by decide +kernel
theorem dX9_apply_79 : decode cX9_apply 79 = .ok (.aload_n 0, 1) := by decide +kernel
theorem dX9_apply_80 : decode cX9_apply 80 = .ok (.getfield 59, 3) := by decide +kernel
theorem dX9_apply_83 : decode cX9_apply 83 = .ok (.getfield 103, 3) := by decide +kernel
theorem dX9_apply_86 : decode cX9_apply 86 = .ok (.getfield 138, 3) := by decide +kernel
theorem dX9_apply_89 : decode cX9_apply 89 = .ok (.ireturn, 1) := by decide +kernel
theorem dX9_make_0 : decode cX9_make 0 = .ok (.iload_n 1, 1) := by decide +kernel
theorem dX9_make_1 : decode cX9_make 1 = .ok (.iconst 1, 1) := by decide +kernel
theorem dX9_make_2 : decode cX9_make 2 = .ok (.if_icmp .lt 9, 3) := by decide +kernel
theorem dX9_make_5 : decode cX9_make 5 = .ok (.iload_n 1, 1) := by decide +kernel
theorem dX9_make_6 : decode cX9_make 6 = .ok (.bipush 30, 2) := by decide +kernel
theorem dX9_make_8 : decode cX9_make 8 = .ok (.if_icmp .le 5, 3) := by decide +kernel
theorem dX9_make_11 : decode cX9_make 11 = .ok (.iconst (-1), 1) := by decide +kernel
theorem dX9_make_12 : decode cX9_make 12 = .ok (.ireturn, 1) := by decide +kernel
theorem dX9_make_13 : decode cX9_make 13 = .ok (.aload_n 0, 1) := by decide +kernel
theorem dX9_make_14 : decode cX9_make 14 = .ok (.getfield 66, 3) := by decide +kernel
theorem dX9_make_17 : decode cX9_make 17 = .ok (.aload_n 0, 1) := by decide +kernel
theorem dX9_make_18 : decode cX9_make 18 = .ok (.getfield 59, 3) := by decide +kernel
theorem dX9_make_21 : decode cX9_make 21 = .ok (.invokevirtual 204, 3) := by decide +kernel
theorem dX9_make_24 : decode cX9_make 24 = .ok (.iconst 0, 1) := by decide +kernel
theorem dX9_make_25 : decode cX9_make 25 = .ok (.istore_n 2, 1) := by decide +kernel
theorem dX9_make_26 : decode cX9_make 26 = .ok (.iload_n 2, 1) := by decide +kernel
theorem dX9_make_27 : decode cX9_make 27 = .ok (.iload_n 1, 1) := by decide +kernel
theorem dX9_make_28 : decode cX9_make 28 = .ok (.if_icmp .ge 23, 3) := by decide +kernel
theorem dX9_make_31 : decode cX9_make 31 = .ok (.aload_n 0, 1) := by decide +kernel
theorem dX9_make_32 : decode cX9_make 32 = .ok (.invokevirtual 182, 3) := by decide +kernel
theorem dX9_make_35 : decode cX9_make 35 = .ok (.invokevirtual 207, 3) := by decide +kernel
theorem dX9_make_38 : decode cX9_make 38 = .ok (.ifCond .eq 13, 3) := by decide +kernel
theorem dX9_make_41 : decode cX9_make 41 = .ok (.aload_n 0, 1) := by decide +kernel
theorem dX9_make_42 : decode cX9_make 42 = .ok (.invokevirtual 211, 3) := by decide +kernel
theorem dX9_make_45 : decode cX9_make 45 = .ok (.iinc 2 1, 3) := by decide +kernel
theorem dX9_make_48 : decode cX9_make 48 = .ok (.goto (-22), 3) := by decide +kernel
theorem dX9_make_51 : decode cX9_make 51 = .ok (.iload_n 2, 1) := by decide +kernel
theorem dX9_make_52 : decode cX9_make 52 = .ok (.ireturn, 1) := by decide +kernel
theorem dX9_undo_0 : decode cX9_undo 0 = .ok (.aload_n 0, 1) := by decide +kernel
theorem dX9_undo_1 : decode cX9_undo 1 = .ok (.getfield 66, 3) := by decide +kernel
theorem dX9_undo_4 : decode cX9_undo 4 = .ok (.getfield 214, 3) := by decide +kernel
theorem dX9_undo_7 : decode cX9_undo 7 = .ok (.ifCond .ne 5, 3) := by decide +kernel
theorem dX9_undo_10 : decode cX9_undo 10 = .ok (.iconst (-1), 1) := by decide +kernel
theorem dX9_undo_11 : decode cX9_undo 11 = .ok (.ireturn, 1) := by decide +kernel
theorem dX9_undo_12 : decode cX9_undo 12 = .ok (.aload_n 0, 1) := by decide +kernel
theorem dX9_undo_13 : decode cX9_undo 13 = .ok (.getfield 66, 3) := by decide +kernel
theorem dX9_undo_16 : decode cX9_undo 16 = .ok (.aload_n 0, 1) := by decide +kernel
theorem dX9_undo_17 : decode cX9_undo 17 = .ok (.getfield 59, 3) := by decide +kernel
theorem dX9_undo_20 : decode cX9_undo 20 = .ok (.invokevirtual 215, 3) := by decide +kernel
theorem dX9_undo_23 : decode cX9_undo 23 = .ok (.aload_n 0, 1) := by decide +kernel
theorem dX9_undo_24 : decode cX9_undo 24 = .ok (.invokevirtual 218, 3) := by decide +kernel
theorem dX9_undo_27 : decode cX9_undo 27 = .ok (.aload_n 0, 1) := by decide +kernel
theorem dX9_undo_28 : decode cX9_undo 28 = .ok (.getfield 66, 3) := by decide +kernel
theorem dX9_undo_31 : decode cX9_undo 31 = .ok (.getfield 214, 3) := by decide +kernel
theorem dX9_undo_34 : decode cX9_undo 34 = .ok (.ireturn, 1) := by decide +kernel
theorem dX9_is_0 : decode cX9_is 0 = .ok (.iload_n 1, 1) := by decide +kernel
theorem dX9_is_1 : decode cX9_is 1 = .ok (.tableswitch 231 0 15 #[79, 90, 101, 112, 120, 128, 137, 148, 156, 164, 172, 177, 186, 194, 209, 220], 79) := by decide +kernel
theorem dX9_is_80 : decode cX9_is 80 = .ok (.aload_n 0, 1) := by decide +kernel
theorem dX9_is_81 : decode cX9_is 81 = .ok (.getfield 59, 3) := by decide +kernel
theorem dX9_is_84 : decode cX9_is 84 = .ok (.getfield 103, 3) := by decide +kernel
theorem dX9_is_87 : decode cX9_is 87 = .ok (.getfield 138, 3) := by decide +kernel
theorem dX9_is_90 : decode cX9_is 90 = .ok (.ireturn, 1) := by decide +kernel
theorem dX9_is_91 : decode cX9_is 91 = .ok (.aload_n 0, 1) := by decide +kernel
theorem dX9_is_92 : decode cX9_is 92 = .ok (.invokevirtual 182, 3) := by decide +kernel
theorem dX9_is_95 : decode cX9_is 95 = .ok (.getfield 221, 3) := by decide +kernel
theorem dX9_is_98 : decode cX9_is 98 = .ok (.getfield 225, 3) := by decide +kernel
theorem dX9_is_101 : decode cX9_is 101 = .ok (.ireturn, 1) := by decide +kernel
theorem dX9_is_102 : decode cX9_is 102 = .ok (.aload_n 0, 1) := by decide +kernel
theorem dX9_is_103 : decode cX9_is 103 = .ok (.getfield 59, 3) := by decide +kernel
theorem dX9_is_106 : decode cX9_is 106 = .ok (.getfield 117, 3) := by decide +kernel
theorem dX9_is_109 : decode cX9_is 109 = .ok (.getfield 120, 3) := by decide +kernel
theorem dX9_is_112 : decode cX9_is 112 = .ok (.ireturn, 1) := by decide +kernel
theorem dX9_is_113 : decode cX9_is 113 = .ok (.aload_n 0, 1) := by decide +kernel
theorem dX9_is_114 : decode cX9_is 114 = .ok (.getfield 59, 3) := by decide +kernel
theorem dX9_is_117 : decode cX9_is 117 = .ok (.getfield 135, 3) := by decide +kernel
theorem dX9_is_120 : decode cX9_is 120 = .ok (.ireturn, 1) := by decide +kernel
theorem dX9_is_121 : decode cX9_is 121 = .ok (.aload_n 0, 1) := by decide +kernel
theorem dX9_is_122 : decode cX9_is 122 = .ok (.invokevirtual 182, 3) := by decide +kernel
theorem dX9_is_125 : decode cX9_is 125 = .ok (.getfield 228, 3) := by decide +kernel
theorem dX9_is_128 : decode cX9_is 128 = .ok (.ireturn, 1) := by decide +kernel
theorem dX9_is_129 : decode cX9_is 129 = .ok (.aload_n 0, 1) := by decide +kernel
theorem dX9_is_130 : decode cX9_is 130 = .ok (.invokevirtual 182, 3) := by decide +kernel
theorem dX9_is_133 : decode cX9_is 133 = .ok (.iconst 1, 1) := by decide +kernel
theorem dX9_is_134 : decode cX9_is 134 = .ok (.invokevirtual 229, 3) := by decide +kernel
theorem dX9_is_137 : decode cX9_is 137 = .ok (.ireturn, 1) := by decide +kernel
theorem dX9_is_138 : decode cX9_is 138 = .ok (.aload_n 0, 1) := by decide +kernel
theorem dX9_is_139 : decode cX9_is 139 = .ok (.getfield 59, 3) := by decide +kernel
theorem dX9_is_142 : decode cX9_is 142 = .ok (.getfield 103, 3) := by decide +kernel
theorem dX9_is_145 : decode cX9_is 145 = .ok (.getfield 141, 3) := by decide +kernel
theorem dX9_is_148 : decode cX9_is 148 = .ok (.ireturn, 1) := by decide +kernel
theorem dX9_is_149 : decode cX9_is 149 = .ok (.aload_n 0, 1) := by decide +kernel
theorem dX9_is_150 : decode cX9_is 150 = .ok (.getfield 59, 3) := by decide +kernel
theorem dX9_is_153 : decode cX9_is 153 = .ok (.getfield 151, 3) := by decide +kernel
theorem dX9_is_156 : decode cX9_is 156 = .ok (.ireturn, 1) := by decide +kernel
theorem dX9_is_157 : decode cX9_is 157 = .ok (.aload_n 0, 1) := by decide +kernel
theorem dX9_is_158 : decode cX9_is 158 = .ok (.getfield 59, 3) := by decide +kernel
theorem dX9_is_161 : decode cX9_is 161 = .ok (.getfield 154, 3) := by decide +kernel
theorem dX9_is_164 : decode cX9_is 164 = .ok (.ireturn, 1) := by decide +kernel
theorem dX9_is_165 : decode cX9_is 165 = .ok (.aload_n 0, 1) := by decide +kernel
theorem dX9_is_166 : decode cX9_is 166 = .ok (.getfield 59, 3) := by decide +kernel
theorem dX9_is_169 : decode cX9_is 169 = .ok (.getfield 233, 3) := by decide +kernel
theorem dX9_is_172 : decode cX9_is 172 = .ok (.ireturn, 1) := by decide +kernel
theorem dX9_is_173 : decode cX9_is 173 = .ok (.aload_n 0, 1) := by decide +kernel
theorem dX9_is_174 : decode cX9_is 174 = .ok (.getfield 88, 3) := by decide +kernel
theorem dX9_is_177 : decode cX9_is 177 = .ok (.ireturn, 1) := by decide +kernel
theorem dX9_is_178 : decode cX9_is 178 = .ok (.aload_n 0, 1) := by decide +kernel
theorem dX9_is_179 : decode cX9_is 179 = .ok (.invokevirtual 182, 3) := by decide +kernel
theorem dX9_is_182 : decode cX9_is 182 = .ok (.iconst 2, 1) := by decide +kernel
theorem dX9_is_183 : decode cX9_is 183 = .ok (.invokevirtual 229, 3) := by decide +kernel
theorem dX9_is_186 : decode cX9_is 186 = .ok (.ireturn, 1) := by decide +kernel
theorem dX9_is_187 : decode cX9_is 187 = .ok (.aload_n 0, 1) := by decide +kernel
theorem dX9_is_188 : decode cX9_is 188 = .ok (.getfield 59, 3) := by decide +kernel
theorem dX9_is_191 : decode cX9_is 191 = .ok (.getfield 170, 3) := by decide +kernel
theorem dX9_is_194 : decode cX9_is 194 = .ok (.ireturn, 1) := by decide +kernel
theorem dX9_is_195 : decode cX9_is 195 = .ok (.aload_n 0, 1) := by decide +kernel
theorem dX9_is_196 : decode cX9_is 196 = .ok (.getfield 26, 3) := by decide +kernel
theorem dX9_is_199 : decode cX9_is 199 = .ok (.aload_n 0, 1) := by decide +kernel
theorem dX9_is_200 : decode cX9_is 200 = .ok (.getfield 59, 3) := by decide +kernel
theorem dX9_is_203 : decode cX9_is 203 = .ok (.getfield 103, 3) := by decide +kernel
theorem dX9_is_206 : decode cX9_is 206 = .ok (.invokevirtual 236, 3) := by decide +kernel
theorem dX9_is_209 : decode cX9_is 209 = .ok (.ireturn, 1) := by decide +kernel
theorem dX9_is_210 : decode cX9_is 210 = .ok (.aload_n 0, 1) := by decide +kernel
theorem dX9_is_211 : decode cX9_is 211 = .ok (.getfield 59, 3) := by decide +kernel
theorem dX9_is_214 : decode cX9_is 214 = .ok (.getfield 103, 3) := by decide +kernel
theorem dX9_is_217 : decode cX9_is 217 = .ok (.invokevirtual 240, 3) := by decide +kernel
theorem dX9_is_220 : decode cX9_is 220 = .ok (.ireturn, 1) := by decide +kernel
theorem dX9_is_221 : decode cX9_is 221 = .ok (.aload_n 0, 1) := by decide +kernel
theorem dX9_is_222 : decode cX9_is 222 = .ok (.getfield 59, 3) := by decide +kernel
theorem dX9_is_225 : decode cX9_is 225 = .ok (.getfield 103, 3) := by decide +kernel
theorem dX9_is_228 : decode cX9_is 228 = .ok (.invokevirtual 244, 3) := by decide +kernel
theorem dX9_is_231 : decode cX9_is 231 = .ok (.ireturn, 1) := by decide +kernel
theorem dX9_is_232 : decode cX9_is 232 = .ok (.iconst (-1), 1) := by decide +kernel
theorem dX9_is_233 : decode cX9_is 233 = .ok (.ireturn, 1) := by decide +kernel
theorem dX9_at_0 : decode cX9_at 0 = .ok (.aload_n 0, 1) := by decide +kernel
theorem dX9_at_1 : decode cX9_at 1 = .ok (.iload_n 1, 1) := by decide +kernel
theorem dX9_at_2 : decode cX9_at 2 = .ok (.invokevirtual 157, 3) := by decide +kernel
theorem dX9_at_5 : decode cX9_at 5 = .ok (.ifCond .eq 18, 3) := by decide +kernel
theorem dX9_at_8 : decode cX9_at 8 = .ok (.aload_n 0, 1) := by decide +kernel
theorem dX9_at_9 : decode cX9_at 9 = .ok (.getfield 59, 3) := by decide +kernel
theorem dX9_at_12 : decode cX9_at 12 = .ok (.getfield 103, 3) := by decide +kernel
theorem dX9_at_15 : decode cX9_at 15 = .ok (.getfield 164, 3) := by decide +kernel
theorem dX9_at_18 : decode cX9_at 18 = .ok (.iload_n 1, 1) := by decide +kernel
theorem dX9_at_19 : decode cX9_at 19 = .ok (.baload, 1) := by decide +kernel
theorem dX9_at_20 : decode cX9_at 20 = .ok (.goto 4, 3) := by decide +kernel
theorem dX9_at_23 : decode cX9_at 23 = .ok (.iconst (-1), 1) := by decide +kernel
theorem dX9_at_24 : decode cX9_at 24 = .ok (.ireturn, 1) := by decide +kernel
theorem dX9_token_0 : decode cX9_token 0 = .ok (.aload_n 0, 1) := by decide +kernel
theorem dX9_token_1 : decode cX9_token 1 = .ok (.invokevirtual 182, 3) := by decide +kernel
theorem dX9_token_4 : decode cX9_token 4 = .ok (.getfield 221, 3) := by decide +kernel
theorem dX9_token_7 : decode cX9_token 7 = .ok (.astore_n 3, 1) := by decide +kernel
theorem dX9_token_8 : decode cX9_token 8 = .ok (.iload_n 1, 1) := by decide +kernel
theorem dX9_token_9 : decode cX9_token 9 = .ok (.ifCond .lt 11, 3) := by decide +kernel
theorem dX9_token_12 : decode cX9_token 12 = .ok (.iload_n 1, 1) := by decide +kernel
theorem dX9_token_13 : decode cX9_token 13 = .ok (.aload_n 3, 1) := by decide +kernel
theorem dX9_token_14 : decode cX9_token 14 = .ok (.getfield 225, 3) := by decide +kernel
theorem dX9_token_17 : decode cX9_token 17 = .ok (.if_icmp .lt 5, 3) := by decide +kernel
theorem dX9_token_20 : decode cX9_token 20 = .ok (.iconst (-1), 1) := by decide +kernel
theorem dX9_token_21 : decode cX9_token 21 = .ok (.ireturn, 1) := by decide +kernel
theorem dX9_token_22 : decode cX9_token 22 = .ok (.iload_n 2, 1) := by decide +kernel
theorem dX9_token_23 : decode cX9_token 23 = .ok (.tableswitch 55 0 2 #[25, 32, 39], 25) := by decide +kernel
theorem dX9_token_48 : decode cX9_token 48 = .ok (.aload_n 3, 1) := by decide +kernel
theorem dX9_token_49 : decode cX9_token 49 = .ok (.getfield 247, 3) := by decide +kernel
theorem dX9_token_52 : decode cX9_token 52 = .ok (.iload_n 1, 1) := by decide +kernel
theorem dX9_token_53 : decode cX9_token 53 = .ok (.iaload, 1) := by decide +kernel
theorem dX9_token_54 : decode cX9_token 54 = .ok (.ireturn, 1) := by decide +kernel
theorem dX9_token_55 : decode cX9_token 55 = .ok (.aload_n 3, 1) := by decide +kernel
theorem dX9_token_56 : decode cX9_token 56 = .ok (.getfield 250, 3) := by decide +kernel
theorem dX9_token_59 : decode cX9_token 59 = .ok (.iload_n 1, 1) := by decide +kernel
theorem dX9_token_60 : decode cX9_token 60 = .ok (.iaload, 1) := by decide +kernel
theorem dX9_token_61 : decode cX9_token 61 = .ok (.ireturn, 1) := by decide +kernel
theorem dX9_token_62 : decode cX9_token 62 = .ok (.aload_n 3, 1) := by decide +kernel
theorem dX9_token_63 : decode cX9_token 63 = .ok (.getfield 250, 3) := by decide +kernel
theorem dX9_token_66 : decode cX9_token 66 = .ok (.iload_n 1, 1) := by decide +kernel
theorem dX9_token_67 : decode cX9_token 67 = .ok (.iconst 1, 1) := by decide +kernel
theorem dX9_token_68 : decode cX9_token 68 = .ok (.iadd, 1) := by decide +kernel
theorem dX9_token_69 : decode cX9_token 69 = .ok (.iaload, 1) := by decide +kernel
theorem dX9_token_70 : decode cX9_token 70 = .ok (.aload_n 3, 1) := by decide +kernel
theorem dX9_token_71 : decode cX9_token 71 = .ok (.getfield 250, 3) := by decide +kernel
theorem dX9_token_74 : decode cX9_token 74 = .ok (.iload_n 1, 1) := by decide +kernel
theorem dX9_token_75 : decode cX9_token 75 = .ok (.iaload, 1) := by decide +kernel
theorem dX9_token_76 : decode cX9_token 76 = .ok (.isub, 1) := by decide +kernel
theorem dX9_token_77 : decode cX9_token 77 = .ok (.ireturn, 1) := by decide +kernel
theorem dX9_token_78 : decode cX9_token 78 = .ok (.iconst (-1), 1) := by decide +kernel
theorem dX9_token_79 : decode cX9_token 79 = .ok (.ireturn, 1) := by decide +kernel
theorem dX9_tokenAt_0 : decode cX9_tokenAt 0 = .ok (.aload_n 0, 1) := by decide +kernel
theorem dX9_tokenAt_1 : decode cX9_tokenAt 1 = .ok (.iload_n 1, 1) := by decide +kernel
theorem dX9_tokenAt_2 : decode cX9_tokenAt 2 = .ok (.invokevirtual 157, 3) := by decide +kernel
theorem dX9_tokenAt_5 : decode cX9_tokenAt 5 = .ok (.ifCond .eq 17, 3) := by decide +kernel
theorem dX9_tokenAt_8 : decode cX9_tokenAt 8 = .ok (.aload_n 0, 1) := by decide +kernel
theorem dX9_tokenAt_9 : decode cX9_tokenAt 9 = .ok (.invokevirtual 182, 3) := by decide +kernel
theorem dX9_tokenAt_12 : decode cX9_tokenAt 12 = .ok (.getfield 221, 3) := by decide +kernel
theorem dX9_tokenAt_15 : decode cX9_tokenAt 15 = .ok (.iload_n 1, 1) := by decide +kernel
theorem dX9_tokenAt_16 : decode cX9_tokenAt 16 = .ok (.invokevirtual 253, 3) := by decide +kernel
theorem dX9_tokenAt_19 : decode cX9_tokenAt 19 = .ok (.goto 4, 3) := by decide +kernel
theorem dX9_tokenAt_22 : decode cX9_tokenAt 22 = .ok (.iconst (-1), 1) := by decide +kernel
theorem dX9_tokenAt_23 : decode cX9_tokenAt 23 = .ok (.ireturn, 1) := by decide +kernel
theorem dX9_rule_0 : decode cX9_rule 0 = .ok (.aload_n 0, 1) := by decide +kernel
theorem dX9_rule_1 : decode cX9_rule 1 = .ok (.iload_n 1, 1) := by decide +kernel
theorem dX9_rule_2 : decode cX9_rule 2 = .ok (.invokevirtual 129, 3) := by decide +kernel
theorem dX9_rule_5 : decode cX9_rule 5 = .ok (.ifCond .ne 5, 3) := by decide +kernel
theorem dX9_rule_8 : decode cX9_rule 8 = .ok (.iconst (-1), 1) := by decide +kernel
theorem dX9_rule_9 : decode cX9_rule 9 = .ok (.ireturn, 1) := by decide +kernel
theorem dX9_rule_10 : decode cX9_rule 10 = .ok (.iload_n 2, 1) := by decide +kernel
theorem dX9_rule_11 : decode cX9_rule 11 = .ok (.tableswitch 98 0 4 #[33, 46, 59, 72, 89], 33) := by decide +kernel
theorem dX9_rule_44 : decode cX9_rule 44 = .ok (.aload_n 0, 1) := by decide +kernel
theorem dX9_rule_45 : decode cX9_rule 45 = .ok (.getfield 59, 3) := by decide +kernel
theorem dX9_rule_48 : decode cX9_rule 48 = .ok (.getfield 117, 3) := by decide +kernel
theorem dX9_rule_51 : decode cX9_rule 51 = .ok (.getfield 256, 3) := by decide +kernel
theorem dX9_rule_54 : decode cX9_rule 54 = .ok (.iload_n 1, 1) := by decide +kernel
theorem dX9_rule_55 : decode cX9_rule 55 = .ok (.iaload, 1) := by decide +kernel
theorem dX9_rule_56 : decode cX9_rule 56 = .ok (.ireturn, 1) := by decide +kernel
theorem dX9_rule_57 : decode cX9_rule 57 = .ok (.aload_n 0, 1) := by decide +kernel
theorem dX9_rule_58 : decode cX9_rule 58 = .ok (.getfield 59, 3) := by decide +kernel
theorem dX9_rule_61 : decode cX9_rule 61 = .ok (.getfield 117, 3) := by decide +kernel
theorem dX9_rule_64 : decode cX9_rule 64 = .ok (.getfield 259, 3) := by decide +kernel
theorem dX9_rule_67 : decode cX9_rule 67 = .ok (.iload_n 1, 1) := by decide +kernel
theorem dX9_rule_68 : decode cX9_rule 68 = .ok (.iaload, 1) := by decide +kernel
theorem dX9_rule_69 : decode cX9_rule 69 = .ok (.ireturn, 1) := by decide +kernel
theorem dX9_rule_70 : decode cX9_rule 70 = .ok (.aload_n 0, 1) := by decide +kernel
theorem dX9_rule_71 : decode cX9_rule 71 = .ok (.getfield 59, 3) := by decide +kernel
theorem dX9_rule_74 : decode cX9_rule 74 = .ok (.getfield 117, 3) := by decide +kernel
theorem dX9_rule_77 : decode cX9_rule 77 = .ok (.getfield 262, 3) := by decide +kernel
theorem dX9_rule_80 : decode cX9_rule 80 = .ok (.iload_n 1, 1) := by decide +kernel
theorem dX9_rule_81 : decode cX9_rule 81 = .ok (.iaload, 1) := by decide +kernel
theorem dX9_rule_82 : decode cX9_rule 82 = .ok (.ireturn, 1) := by decide +kernel
theorem dX9_rule_83 : decode cX9_rule 83 = .ok (.aload_n 0, 1) := by decide +kernel
theorem dX9_rule_84 : decode cX9_rule 84 = .ok (.getfield 59, 3) := by decide +kernel
theorem dX9_rule_87 : decode cX9_rule 87 = .ok (.iload_n 1, 1) := by decide +kernel
theorem dX9_rule_88 : decode cX9_rule 88 = .ok (.invokevirtual 132, 3) := by decide +kernel
theorem dX9_rule_91 : decode cX9_rule 91 = .ok (.ifCond .eq 7, 3) := by decide +kernel
theorem dX9_rule_94 : decode cX9_rule 94 = .ok (.iconst 1, 1) := by decide +kernel
theorem dX9_rule_95 : decode cX9_rule 95 = .ok (.goto 4, 3) := by decide +kernel
theorem dX9_rule_98 : decode cX9_rule 98 = .ok (.iconst 0, 1) := by decide +kernel
theorem dX9_rule_99 : decode cX9_rule 99 = .ok (.ireturn, 1) := by decide +kernel
theorem dX9_rule_100 : decode cX9_rule 100 = .ok (.aload_n 0, 1) := by decide +kernel
theorem dX9_rule_101 : decode cX9_rule 101 = .ok (.invokevirtual 182, 3) := by decide +kernel
theorem dX9_rule_104 : decode cX9_rule 104 = .ok (.iload_n 1, 1) := by decide +kernel
theorem dX9_rule_105 : decode cX9_rule 105 = .ok (.invokevirtual 265, 3) := by decide +kernel
theorem dX9_rule_108 : decode cX9_rule 108 = .ok (.ireturn, 1) := by decide +kernel
theorem dX9_rule_109 : decode cX9_rule 109 = .ok (.iconst (-1), 1) := by decide +kernel
theorem dX9_rule_110 : decode cX9_rule 110 = .ok (.ireturn, 1) := by decide +kernel
theorem dX9_fits_0 : decode cX9_fits 0 = .ok (.aload_n 0, 1) := by decide +kernel
theorem dX9_fits_1 : decode cX9_fits 1 = .ok (.iload_n 1, 1) := by decide +kernel
theorem dX9_fits_2 : decode cX9_fits 2 = .ok (.invokevirtual 129, 3) := by decide +kernel
theorem dX9_fits_5 : decode cX9_fits 5 = .ok (.ifCond .eq 19, 3) := by decide +kernel
theorem dX9_fits_8 : decode cX9_fits 8 = .ok (.aload_n 0, 1) := by decide +kernel
theorem dX9_fits_9 : decode cX9_fits 9 = .ok (.invokevirtual 182, 3) := by decide +kernel
theorem dX9_fits_12 : decode cX9_fits 12 = .ok (.iload_n 1, 1) := by decide +kernel
theorem dX9_fits_13 : decode cX9_fits 13 = .ok (.iload_n 2, 1) := by decide +kernel
theorem dX9_fits_14 : decode cX9_fits 14 = .ok (.invokevirtual 268, 3) := by decide +kernel
theorem dX9_fits_17 : decode cX9_fits 17 = .ok (.ifCond .eq 7, 3) := by decide +kernel
theorem dX9_fits_20 : decode cX9_fits 20 = .ok (.iconst 1, 1) := by decide +kernel
theorem dX9_fits_21 : decode cX9_fits 21 = .ok (.goto 4, 3) := by decide +kernel
theorem dX9_fits_24 : decode cX9_fits 24 = .ok (.iconst 0, 1) := by decide +kernel
theorem dX9_fits_25 : decode cX9_fits 25 = .ok (.ireturn, 1) := by decide +kernel
theorem dX9_finding_0 : decode cX9_finding 0 = .ok (.aload_n 0, 1) := by decide +kernel
theorem dX9_finding_1 : decode cX9_finding 1 = .ok (.invokevirtual 182, 3) := by decide +kernel
theorem dX9_finding_4 : decode cX9_finding 4 = .ok (.astore_n 3, 1) := by decide +kernel
theorem dX9_finding_5 : decode cX9_finding 5 = .ok (.aload_n 3, 1) := by decide +kernel
theorem dX9_finding_6 : decode cX9_finding 6 = .ok (.iload_n 1, 1) := by decide +kernel
theorem dX9_finding_7 : decode cX9_finding 7 = .ok (.invokevirtual 186, 3) := by decide +kernel
theorem dX9_finding_10 : decode cX9_finding 10 = .ok (.ifCond .ne 5, 3) := by decide +kernel
theorem dX9_finding_13 : decode cX9_finding 13 = .ok (.iconst (-1), 1) := by decide +kernel
theorem dX9_finding_14 : decode cX9_finding 14 = .ok (.ireturn, 1) := by decide +kernel
theorem dX9_finding_15 : decode cX9_finding 15 = .ok (.iload_n 2, 1) := by decide +kernel
theorem dX9_finding_16 : decode cX9_finding 16 = .ok (.tableswitch 125 0 7 #[48, 55, 61, 67, 74, 81, 96, 110], 48) := by decide +kernel
theorem dX9_finding_64 : decode cX9_finding 64 = .ok (.aload_n 3, 1) := by decide +kernel
theorem dX9_finding_65 : decode cX9_finding 65 = .ok (.getfield 271, 3) := by decide +kernel
theorem dX9_finding_68 : decode cX9_finding 68 = .ok (.iload_n 1, 1) := by decide +kernel
theorem dX9_finding_69 : decode cX9_finding 69 = .ok (.iaload, 1) := by decide +kernel
theorem dX9_finding_70 : decode cX9_finding 70 = .ok (.ireturn, 1) := by decide +kernel
theorem dX9_finding_71 : decode cX9_finding 71 = .ok (.aload_n 3, 1) := by decide +kernel
theorem dX9_finding_72 : decode cX9_finding 72 = .ok (.iload_n 1, 1) := by decide +kernel
theorem dX9_finding_73 : decode cX9_finding 73 = .ok (.invokevirtual 274, 3) := by decide +kernel
theorem dX9_finding_76 : decode cX9_finding 76 = .ok (.ireturn, 1) := by decide +kernel
theorem dX9_finding_77 : decode cX9_finding 77 = .ok (.aload_n 3, 1) := by decide +kernel
theorem dX9_finding_78 : decode cX9_finding 78 = .ok (.iload_n 1, 1) := by decide +kernel
theorem dX9_finding_79 : decode cX9_finding 79 = .ok (.invokevirtual 277, 3) := by decide +kernel
theorem dX9_finding_82 : decode cX9_finding 82 = .ok (.ireturn, 1) := by decide +kernel
theorem dX9_finding_83 : decode cX9_finding 83 = .ok (.aload_n 3, 1) := by decide +kernel
theorem dX9_finding_84 : decode cX9_finding 84 = .ok (.getfield 280, 3) := by decide +kernel
theorem dX9_finding_87 : decode cX9_finding 87 = .ok (.iload_n 1, 1) := by decide +kernel
theorem dX9_finding_88 : decode cX9_finding 88 = .ok (.iaload, 1) := by decide +kernel
theorem dX9_finding_89 : decode cX9_finding 89 = .ok (.ireturn, 1) := by decide +kernel
theorem dX9_finding_90 : decode cX9_finding 90 = .ok (.aload_n 3, 1) := by decide +kernel
theorem dX9_finding_91 : decode cX9_finding 91 = .ok (.getfield 283, 3) := by decide +kernel
theorem dX9_finding_94 : decode cX9_finding 94 = .ok (.iload_n 1, 1) := by decide +kernel
theorem dX9_finding_95 : decode cX9_finding 95 = .ok (.iaload, 1) := by decide +kernel
theorem dX9_finding_96 : decode cX9_finding 96 = .ok (.ireturn, 1) := by decide +kernel
theorem dX9_finding_97 : decode cX9_finding 97 = .ok (.aload_n 3, 1) := by decide +kernel
theorem dX9_finding_98 : decode cX9_finding 98 = .ok (.iload_n 1, 1) := by decide +kernel
theorem dX9_finding_99 : decode cX9_finding 99 = .ok (.iconst 1, 1) := by decide +kernel
theorem dX9_finding_100 : decode cX9_finding 100 = .ok (.invokevirtual 189, 3) := by decide +kernel
theorem dX9_finding_103 : decode cX9_finding 103 = .ok (.ifCond .eq 7, 3) := by decide +kernel
theorem dX9_finding_106 : decode cX9_finding 106 = .ok (.iconst 1, 1) := by decide +kernel
theorem dX9_finding_107 : decode cX9_finding 107 = .ok (.goto 4, 3) := by decide +kernel
theorem dX9_finding_110 : decode cX9_finding 110 = .ok (.iconst 0, 1) := by decide +kernel
theorem dX9_finding_111 : decode cX9_finding 111 = .ok (.ireturn, 1) := by decide +kernel
theorem dX9_finding_112 : decode cX9_finding 112 = .ok (.aload_n 3, 1) := by decide +kernel
theorem dX9_finding_113 : decode cX9_finding 113 = .ok (.iload_n 1, 1) := by decide +kernel
theorem dX9_finding_114 : decode cX9_finding 114 = .ok (.invokevirtual 286, 3) := by decide +kernel
theorem dX9_finding_117 : decode cX9_finding 117 = .ok (.ifCond .eq 7, 3) := by decide +kernel
theorem dX9_finding_120 : decode cX9_finding 120 = .ok (.iconst 1, 1) := by decide +kernel
theorem dX9_finding_121 : decode cX9_finding 121 = .ok (.goto 4, 3) := by decide +kernel
theorem dX9_finding_124 : decode cX9_finding 124 = .ok (.iconst 0, 1) := by decide +kernel
theorem dX9_finding_125 : decode cX9_finding 125 = .ok (.ireturn, 1) := by decide +kernel
theorem dX9_finding_126 : decode cX9_finding 126 = .ok (.aload_n 3, 1) := by decide +kernel
theorem dX9_finding_127 : decode cX9_finding 127 = .ok (.iload_n 1, 1) := by decide +kernel
theorem dX9_finding_128 : decode cX9_finding 128 = .ok (.iconst 2, 1) := by decide +kernel
theorem dX9_finding_129 : decode cX9_finding 129 = .ok (.invokevirtual 189, 3) := by decide +kernel
theorem dX9_finding_132 : decode cX9_finding 132 = .ok (.ifCond .eq 7, 3) := by decide +kernel
theorem dX9_finding_135 : decode cX9_finding 135 = .ok (.iconst 1, 1) := by decide +kernel
theorem dX9_finding_136 : decode cX9_finding 136 = .ok (.goto 4, 3) := by decide +kernel
theorem dX9_finding_139 : decode cX9_finding 139 = .ok (.iconst 0, 1) := by decide +kernel
theorem dX9_finding_140 : decode cX9_finding 140 = .ok (.ireturn, 1) := by decide +kernel
theorem dX9_finding_141 : decode cX9_finding 141 = .ok (.iconst (-1), 1) := by decide +kernel
theorem dX9_finding_142 : decode cX9_finding 142 = .ok (.ireturn, 1) := by decide +kernel
theorem dX9_fresh_0 : decode cX9_fresh 0 = .ok (.aload_n 0, 1) := by decide +kernel
theorem dX9_fresh_1 : decode cX9_fresh 1 = .ok (.invokevirtual 182, 3) := by decide +kernel
theorem dX9_fresh_4 : decode cX9_fresh 4 = .ok (.astore_n 3, 1) := by decide +kernel
theorem dX9_fresh_5 : decode cX9_fresh 5 = .ok (.aload_n 3, 1) := by decide +kernel
theorem dX9_fresh_6 : decode cX9_fresh 6 = .ok (.iload_n 1, 1) := by decide +kernel
theorem dX9_fresh_7 : decode cX9_fresh 7 = .ok (.invokevirtual 186, 3) := by decide +kernel
theorem dX9_fresh_10 : decode cX9_fresh 10 = .ok (.ifCond .eq 17, 3) := by decide +kernel
theorem dX9_fresh_13 : decode cX9_fresh 13 = .ok (.iload_n 2, 1) := by decide +kernel
theorem dX9_fresh_14 : decode cX9_fresh 14 = .ok (.ifCond .lt 13, 3) := by decide +kernel
theorem dX9_fresh_17 : decode cX9_fresh 17 = .ok (.iload_n 2, 1) := by decide +kernel
theorem dX9_fresh_18 : decode cX9_fresh 18 = .ok (.aload_n 3, 1) := by decide +kernel
theorem dX9_fresh_19 : decode cX9_fresh 19 = .ok (.getfield 280, 3) := by decide +kernel
theorem dX9_fresh_22 : decode cX9_fresh 22 = .ok (.iload_n 1, 1) := by decide +kernel
theorem dX9_fresh_23 : decode cX9_fresh 23 = .ok (.iaload, 1) := by decide +kernel
theorem dX9_fresh_24 : decode cX9_fresh 24 = .ok (.if_icmp .lt 5, 3) := by decide +kernel
theorem dX9_fresh_27 : decode cX9_fresh 27 = .ok (.iconst (-1), 1) := by decide +kernel
theorem dX9_fresh_28 : decode cX9_fresh 28 = .ok (.ireturn, 1) := by decide +kernel
theorem dX9_fresh_29 : decode cX9_fresh 29 = .ok (.aload_n 3, 1) := by decide +kernel
theorem dX9_fresh_30 : decode cX9_fresh 30 = .ok (.iload_n 1, 1) := by decide +kernel
theorem dX9_fresh_31 : decode cX9_fresh 31 = .ok (.iload_n 2, 1) := by decide +kernel
theorem dX9_fresh_32 : decode cX9_fresh 32 = .ok (.invokevirtual 289, 3) := by decide +kernel
theorem dX9_fresh_35 : decode cX9_fresh 35 = .ok (.ireturn, 1) := by decide +kernel
theorem dX9_clashes_0 : decode cX9_clashes 0 = .ok (.aload_n 0, 1) := by decide +kernel
theorem dX9_clashes_1 : decode cX9_clashes 1 = .ok (.invokevirtual 182, 3) := by decide +kernel
theorem dX9_clashes_4 : decode cX9_clashes 4 = .ok (.astore_n 2, 1) := by decide +kernel
theorem dX9_clashes_5 : decode cX9_clashes 5 = .ok (.aload_n 2, 1) := by decide +kernel
theorem dX9_clashes_6 : decode cX9_clashes 6 = .ok (.iload_n 1, 1) := by decide +kernel
theorem dX9_clashes_7 : decode cX9_clashes 7 = .ok (.invokevirtual 186, 3) := by decide +kernel
theorem dX9_clashes_10 : decode cX9_clashes 10 = .ok (.ifCond .eq 11, 3) := by decide +kernel
theorem dX9_clashes_13 : decode cX9_clashes 13 = .ok (.aload_n 2, 1) := by decide +kernel
theorem dX9_clashes_14 : decode cX9_clashes 14 = .ok (.iload_n 1, 1) := by decide +kernel
theorem dX9_clashes_15 : decode cX9_clashes 15 = .ok (.invokevirtual 293, 3) := by decide +kernel
theorem dX9_clashes_18 : decode cX9_clashes 18 = .ok (.goto 4, 3) := by decide +kernel
theorem dX9_clashes_21 : decode cX9_clashes 21 = .ok (.iconst (-1), 1) := by decide +kernel
theorem dX9_clashes_22 : decode cX9_clashes 22 = .ok (.ireturn, 1) := by decide +kernel
theorem dX9_set_0 : decode cX9_set 0 = .ok (.aload_n 0, 1) := by decide +kernel
theorem dX9_set_1 : decode cX9_set 1 = .ok (.invokevirtual 182, 3) := by decide +kernel
theorem dX9_set_4 : decode cX9_set 4 = .ok (.astore_n 2, 1) := by decide +kernel
theorem dX9_set_5 : decode cX9_set 5 = .ok (.iload_n 1, 1) := by decide +kernel
theorem dX9_set_6 : decode cX9_set 6 = .ok (.iconst (-1), 1) := by decide +kernel
theorem dX9_set_7 : decode cX9_set 7 = .ok (.if_icmp .ne 8, 3) := by decide +kernel
theorem dX9_set_10 : decode cX9_set 10 = .ok (.aload_n 2, 1) := by decide +kernel
theorem dX9_set_11 : decode cX9_set 11 = .ok (.getfield 296, 3) := by decide +kernel
theorem dX9_set_14 : decode cX9_set 14 = .ok (.ireturn, 1) := by decide +kernel
theorem dX9_set_15 : decode cX9_set 15 = .ok (.iload_n 1, 1) := by decide +kernel
theorem dX9_set_16 : decode cX9_set 16 = .ok (.ifCond .lt 20, 3) := by decide +kernel
theorem dX9_set_19 : decode cX9_set 19 = .ok (.iload_n 1, 1) := by decide +kernel
theorem dX9_set_20 : decode cX9_set 20 = .ok (.aload_n 2, 1) := by decide +kernel
theorem dX9_set_21 : decode cX9_set 21 = .ok (.getfield 296, 3) := by decide +kernel
theorem dX9_set_24 : decode cX9_set 24 = .ok (.if_icmp .ge 12, 3) := by decide +kernel
theorem dX9_set_27 : decode cX9_set 27 = .ok (.aload_n 2, 1) := by decide +kernel
theorem dX9_set_28 : decode cX9_set 28 = .ok (.getfield 299, 3) := by decide +kernel
theorem dX9_set_31 : decode cX9_set 31 = .ok (.iload_n 1, 1) := by decide +kernel
theorem dX9_set_32 : decode cX9_set 32 = .ok (.iaload, 1) := by decide +kernel
theorem dX9_set_33 : decode cX9_set 33 = .ok (.goto 4, 3) := by decide +kernel
theorem dX9_set_36 : decode cX9_set 36 = .ok (.iconst (-1), 1) := by decide +kernel
theorem dX9_set_37 : decode cX9_set 37 = .ok (.ireturn, 1) := by decide +kernel
theorem dX9_worth_0 : decode cX9_worth 0 = .ok (.aload_n 0, 1) := by decide +kernel
theorem dX9_worth_1 : decode cX9_worth 1 = .ok (.invokevirtual 182, 3) := by decide +kernel
theorem dX9_worth_4 : decode cX9_worth 4 = .ok (.invokevirtual 302, 3) := by decide +kernel
theorem dX9_worth_7 : decode cX9_worth 7 = .ok (.ireturn, 1) := by decide +kernel
theorem dX9_chosen_0 : decode cX9_chosen 0 = .ok (.aload_n 0, 1) := by decide +kernel
theorem dX9_chosen_1 : decode cX9_chosen 1 = .ok (.iload_n 1, 1) := by decide +kernel
theorem dX9_chosen_2 : decode cX9_chosen 2 = .ok (.invokevirtual 129, 3) := by decide +kernel
theorem dX9_chosen_5 : decode cX9_chosen 5 = .ok (.ifCond .eq 14, 3) := by decide +kernel
theorem dX9_chosen_8 : decode cX9_chosen 8 = .ok (.aload_n 0, 1) := by decide +kernel
theorem dX9_chosen_9 : decode cX9_chosen 9 = .ok (.invokevirtual 182, 3) := by decide +kernel
theorem dX9_chosen_12 : decode cX9_chosen 12 = .ok (.iload_n 1, 1) := by decide +kernel
theorem dX9_chosen_13 : decode cX9_chosen 13 = .ok (.invokevirtual 305, 3) := by decide +kernel
theorem dX9_chosen_16 : decode cX9_chosen 16 = .ok (.goto 4, 3) := by decide +kernel
theorem dX9_chosen_19 : decode cX9_chosen 19 = .ok (.iconst (-1), 1) := by decide +kernel
theorem dX9_chosen_20 : decode cX9_chosen 20 = .ok (.ireturn, 1) := by decide +kernel
theorem dX9_without_0 : decode cX9_without 0 = .ok (.aload_n 0, 1) := by decide +kernel
theorem dX9_without_1 : decode cX9_without 1 = .ok (.iload_n 1, 1) := by decide +kernel
theorem dX9_without_2 : decode cX9_without 2 = .ok (.invokevirtual 129, 3) := by decide +kernel
theorem dX9_without_5 : decode cX9_without 5 = .ok (.ifCond .ne 5, 3) := by decide +kernel
theorem dX9_without_8 : decode cX9_without 8 = .ok (.iconst (-1), 1) := by decide +kernel
theorem dX9_without_9 : decode cX9_without 9 = .ok (.ireturn, 1) := by decide +kernel
theorem dX9_without_10 : decode cX9_without 10 = .ok (.aload_n 0, 1) := by decide +kernel
theorem dX9_without_11 : decode cX9_without 11 = .ok (.getfield 85, 3) := by decide +kernel
theorem dX9_without_14 : decode cX9_without 14 = .ok (.aload_n 0, 1) := by decide +kernel
theorem dX9_without_15 : decode cX9_without 15 = .ok (.getfield 59, 3) := by decide +kernel
theorem dX9_without_18 : decode cX9_without 18 = .ok (.getfield 103, 3) := by decide +kernel
theorem dX9_without_21 : decode cX9_without 21 = .ok (.aload_n 0, 1) := by decide +kernel
theorem dX9_without_22 : decode cX9_without 22 = .ok (.getfield 59, 3) := by decide +kernel
theorem dX9_without_25 : decode cX9_without 25 = .ok (.aload_n 0, 1) := by decide +kernel
theorem dX9_without_26 : decode cX9_without 26 = .ok (.getfield 59, 3) := by decide +kernel
theorem dX9_without_29 : decode cX9_without 29 = .ok (.getfield 135, 3) := by decide +kernel
theorem dX9_without_32 : decode cX9_without 32 = .ok (.iconst 1, 1) := by decide +kernel
theorem dX9_without_33 : decode cX9_without 33 = .ok (.iload_n 1, 1) := by decide +kernel
theorem dX9_without_34 : decode cX9_without 34 = .ok (.ishl, 1) := by decide +kernel
theorem dX9_without_35 : decode cX9_without 35 = .ok (.iconst (-1), 1) := by decide +kernel
theorem dX9_without_36 : decode cX9_without 36 = .ok (.ixor, 1) := by decide +kernel
theorem dX9_without_37 : decode cX9_without 37 = .ok (.iand, 1) := by decide +kernel
theorem dX9_without_38 : decode cX9_without 38 = .ok (.invokevirtual 308, 3) := by decide +kernel
theorem dX9_without_41 : decode cX9_without 41 = .ok (.aload_n 0, 1) := by decide +kernel
theorem dX9_without_42 : decode cX9_without 42 = .ok (.getfield 85, 3) := by decide +kernel
theorem dX9_without_45 : decode cX9_without 45 = .ok (.invokevirtual 302, 3) := by decide +kernel
theorem dX9_without_48 : decode cX9_without 48 = .ok (.ireturn, 1) := by decide +kernel
theorem dX9_span_0 : decode cX9_span 0 = .ok (.aload_n 0, 1) := by decide +kernel
theorem dX9_span_1 : decode cX9_span 1 = .ok (.invokevirtual 182, 3) := by decide +kernel
theorem dX9_span_4 : decode cX9_span 4 = .ok (.astore_n 3, 1) := by decide +kernel
theorem dX9_span_5 : decode cX9_span 5 = .ok (.aload_n 0, 1) := by decide +kernel
