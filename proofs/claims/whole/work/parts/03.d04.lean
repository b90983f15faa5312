theorem dX10_layOut_23 : decode cX10_layOut 23 = .ok (.if_icmp .ge 20, 3) := by decide +kernel
theorem dX10_layOut_26 : decode cX10_layOut 26 = .ok (.iload_n 3, 1) := by decide +kernel
theorem dX10_layOut_27 : decode cX10_layOut 27 = .ok (.ifCond .eq 16, 3) := by decide +kernel
theorem dX10_layOut_30 : decode cX10_layOut 30 = .ok (.aload_n 0, 1) := by decide +kernel
theorem dX10_layOut_31 : decode cX10_layOut 31 = .ok (.iload_n 1, 1) := by decide +kernel
theorem dX10_layOut_32 : decode cX10_layOut 32 = .ok (.iload 4, 2) := by decide +kernel
theorem dX10_layOut_34 : decode cX10_layOut 34 = .ok (.invokevirtual 165, 3) := by decide +kernel
theorem dX10_layOut_37 : decode cX10_layOut 37 = .ok (.iinc 4 1, 3) := by decide +kernel
theorem dX10_layOut_40 : decode cX10_layOut 40 = .ok (.goto (-25), 3) := by decide +kernel
theorem dX10_layOut_43 : decode cX10_layOut 43 = .ok (.return_, 1) := by decide +kernel
theorem dX10_isElse_0 : decode cX10_isElse 0 = .ok (.aload_n 0, 1) := by decide +kernel
theorem dX10_isElse_1 : decode cX10_isElse 1 = .ok (.getfield 148, 3) := by decide +kernel
theorem dX10_isElse_4 : decode cX10_isElse 4 = .ok (.iload_n 2, 1) := by decide +kernel
theorem dX10_isElse_5 : decode cX10_isElse 5 = .ok (.iload_n 1, 1) := by decide +kernel
theorem dX10_isElse_6 : decode cX10_isElse 6 = .ok (.isub, 1) := by decide +kernel
theorem dX10_isElse_7 : decode cX10_isElse 7 = .ok (.if_icmp .eq 5, 3) := by decide +kernel
theorem dX10_isElse_10 : decode cX10_isElse 10 = .ok (.iconst 1, 1) := by decide +kernel
theorem dX10_isElse_11 : decode cX10_isElse 11 = .ok (.ireturn, 1) := by decide +kernel
theorem dX10_isElse_12 : decode cX10_isElse 12 = .ok (.iconst 0, 1) := by decide +kernel
theorem dX10_isElse_13 : decode cX10_isElse 13 = .ok (.istore_n 3, 1) := by decide +kernel
theorem dX10_isElse_14 : decode cX10_isElse 14 = .ok (.iload_n 3, 1) := by decide +kernel
theorem dX10_isElse_15 : decode cX10_isElse 15 = .ok (.aload_n 0, 1) := by decide +kernel
theorem dX10_isElse_16 : decode cX10_isElse 16 = .ok (.getfield 148, 3) := by decide +kernel
theorem dX10_isElse_19 : decode cX10_isElse 19 = .ok (.if_icmp .ge 27, 3) := by decide +kernel
theorem dX10_isElse_22 : decode cX10_isElse 22 = .ok (.aload_n 0, 1) := by decide +kernel
theorem dX10_isElse_23 : decode cX10_isElse 23 = .ok (.getfield 25, 3) := by decide +kernel
theorem dX10_isElse_26 : decode cX10_isElse 26 = .ok (.iload_n 3, 1) := by decide +kernel
theorem dX10_isElse_27 : decode cX10_isElse 27 = .ok (.iaload, 1) := by decide +kernel
theorem dX10_isElse_28 : decode cX10_isElse 28 = .ok (.aload_n 0, 1) := by decide +kernel
theorem dX10_isElse_29 : decode cX10_isElse 29 = .ok (.iload_n 1, 1) := by decide +kernel
theorem dX10_isElse_30 : decode cX10_isElse 30 = .ok (.iload_n 3, 1) := by decide +kernel
theorem dX10_isElse_31 : decode cX10_isElse 31 = .ok (.iadd, 1) := by decide +kernel
theorem dX10_isElse_32 : decode cX10_isElse 32 = .ok (.invokevirtual 120, 3) := by decide +kernel
theorem dX10_isElse_35 : decode cX10_isElse 35 = .ok (.if_icmp .eq 5, 3) := by decide +kernel
theorem dX10_isElse_38 : decode cX10_isElse 38 = .ok (.iconst 1, 1) := by decide +kernel
theorem dX10_isElse_39 : decode cX10_isElse 39 = .ok (.ireturn, 1) := by decide +kernel
theorem dX10_isElse_40 : decode cX10_isElse 40 = .ok (.iinc 3 1, 3) := by decide +kernel
theorem dX10_isElse_43 : decode cX10_isElse 43 = .ok (.goto (-29), 3) := by decide +kernel
theorem dX10_isElse_46 : decode cX10_isElse 46 = .ok (.iconst 0, 1) := by decide +kernel
theorem dX10_isElse_47 : decode cX10_isElse 47 = .ok (.ireturn, 1) := by decide +kernel
theorem dX10_valueOf_0 : decode cX10_valueOf 0 = .ok (.aload_n 0, 1) := by decide +kernel
theorem dX10_valueOf_1 : decode cX10_valueOf 1 = .ok (.iload_n 1, 1) := by decide +kernel
theorem dX10_valueOf_2 : decode cX10_valueOf 2 = .ok (.iconst 0, 1) := by decide +kernel
theorem dX10_valueOf_3 : decode cX10_valueOf 3 = .ok (.invokevirtual 127, 3) := by decide +kernel
theorem dX10_valueOf_6 : decode cX10_valueOf 6 = .ok (.istore_n 3, 1) := by decide +kernel
theorem dX10_valueOf_7 : decode cX10_valueOf 7 = .ok (.aload_n 0, 1) := by decide +kernel
theorem dX10_valueOf_8 : decode cX10_valueOf 8 = .ok (.getfield 7, 3) := by decide +kernel
theorem dX10_valueOf_11 : decode cX10_valueOf 11 = .ok (.iconst 5, 1) := by decide +kernel
theorem dX10_valueOf_12 : decode cX10_valueOf 12 = .ok (.iaload, 1) := by decide +kernel
theorem dX10_valueOf_13 : decode cX10_valueOf 13 = .ok (.ifCond .ne 7, 3) := by decide +kernel
theorem dX10_valueOf_16 : decode cX10_valueOf 16 = .ok (.iload_n 3, 1) := by decide +kernel
theorem dX10_valueOf_17 : decode cX10_valueOf 17 = .ok (.goto 12, 3) := by decide +kernel
theorem dX10_valueOf_20 : decode cX10_valueOf 20 = .ok (.iload_n 3, 1) := by decide +kernel
theorem dX10_valueOf_21 : decode cX10_valueOf 21 = .ok (.i2f, 1) := by decide +kernel
theorem dX10_valueOf_22 : decode cX10_valueOf 22 = .ok (.ldc 168, 2) := by decide +kernel
theorem dX10_valueOf_24 : decode cX10_valueOf 24 = .ok (.fmul, 1) := by decide +kernel
theorem dX10_valueOf_25 : decode cX10_valueOf 25 = .ok (.iload_n 2, 1) := by decide +kernel
theorem dX10_valueOf_26 : decode cX10_valueOf 26 = .ok (.i2f, 1) := by decide +kernel
theorem dX10_valueOf_27 : decode cX10_valueOf 27 = .ok (.fdiv, 1) := by decide +kernel
theorem dX10_valueOf_28 : decode cX10_valueOf 28 = .ok (.f2i, 1) := by decide +kernel
theorem dX10_valueOf_29 : decode cX10_valueOf 29 = .ok (.ireturn, 1) := by decide +kernel
theorem dX10_isSilentSpan_0 : decode cX10_isSilentSpan 0 = .ok (.iconst 0, 1) := by decide +kernel
theorem dX10_isSilentSpan_1 : decode cX10_isSilentSpan 1 = .ok (.istore_n 3, 1) := by decide +kernel
theorem dX10_isSilentSpan_2 : decode cX10_isSilentSpan 2 = .ok (.iload_n 3, 1) := by decide +kernel
theorem dX10_isSilentSpan_3 : decode cX10_isSilentSpan 3 = .ok (.aload_n 0, 1) := by decide +kernel
theorem dX10_isSilentSpan_4 : decode cX10_isSilentSpan 4 = .ok (.getfield 7, 3) := by decide +kernel
theorem dX10_isSilentSpan_7 : decode cX10_isSilentSpan 7 = .ok (.iconst 3, 1) := by decide +kernel
theorem dX10_isSilentSpan_8 : decode cX10_isSilentSpan 8 = .ok (.iaload, 1) := by decide +kernel
theorem dX10_isSilentSpan_9 : decode cX10_isSilentSpan 9 = .ok (.if_icmp .ge 45, 3) := by decide +kernel
theorem dX10_isSilentSpan_12 : decode cX10_isSilentSpan 12 = .ok (.iload_n 1, 1) := by decide +kernel
theorem dX10_isSilentSpan_13 : decode cX10_isSilentSpan 13 = .ok (.aload_n 0, 1) := by decide +kernel
theorem dX10_isSilentSpan_14 : decode cX10_isSilentSpan 14 = .ok (.getfield 7, 3) := by decide +kernel
theorem dX10_isSilentSpan_17 : decode cX10_isSilentSpan 17 = .ok (.sipush 410, 3) := by decide +kernel
theorem dX10_isSilentSpan_20 : decode cX10_isSilentSpan 20 = .ok (.iconst 2, 1) := by decide +kernel
theorem dX10_isSilentSpan_21 : decode cX10_isSilentSpan 21 = .ok (.iload_n 3, 1) := by decide +kernel
theorem dX10_isSilentSpan_22 : decode cX10_isSilentSpan 22 = .ok (.imul, 1) := by decide +kernel
theorem dX10_isSilentSpan_23 : decode cX10_isSilentSpan 23 = .ok (.iadd, 1) := by decide +kernel
theorem dX10_isSilentSpan_24 : decode cX10_isSilentSpan 24 = .ok (.iconst 1, 1) := by decide +kernel
theorem dX10_isSilentSpan_25 : decode cX10_isSilentSpan 25 = .ok (.iadd, 1) := by decide +kernel
theorem dX10_isSilentSpan_26 : decode cX10_isSilentSpan 26 = .ok (.iaload, 1) := by decide +kernel
theorem dX10_isSilentSpan_27 : decode cX10_isSilentSpan 27 = .ok (.if_icmp .ge 21, 3) := by decide +kernel
theorem dX10_isSilentSpan_30 : decode cX10_isSilentSpan 30 = .ok (.aload_n 0, 1) := by decide +kernel
theorem dX10_isSilentSpan_31 : decode cX10_isSilentSpan 31 = .ok (.getfield 7, 3) := by decide +kernel
theorem dX10_isSilentSpan_34 : decode cX10_isSilentSpan 34 = .ok (.sipush 410, 3) := by decide +kernel
theorem dX10_isSilentSpan_37 : decode cX10_isSilentSpan 37 = .ok (.iconst 2, 1) := by decide +kernel
theorem dX10_isSilentSpan_38 : decode cX10_isSilentSpan 38 = .ok (.iload_n 3, 1) := by decide +kernel
theorem dX10_isSilentSpan_39 : decode cX10_isSilentSpan 39 = .ok (.imul, 1) := by decide +kernel
theorem dX10_isSilentSpan_40 : decode cX10_isSilentSpan 40 = .ok (.iadd, 1) := by decide +kernel
theorem dX10_isSilentSpan_41 : decode cX10_isSilentSpan 41 = .ok (.iaload, 1) := by decide +kernel
theorem dX10_isSilentSpan_42 : decode cX10_isSilentSpan 42 = .ok (.iload_n 2, 1) := by decide +kernel
theorem dX10_isSilentSpan_43 : decode cX10_isSilentSpan 43 = .ok (.if_icmp .ge 5, 3) := by decide +kernel
theorem dX10_isSilentSpan_46 : decode cX10_isSilentSpan 46 = .ok (.iconst 1, 1) := by decide +kernel
theorem dX10_isSilentSpan_47 : decode cX10_isSilentSpan 47 = .ok (.ireturn, 1) := by decide +kernel
theorem dX10_isSilentSpan_48 : decode cX10_isSilentSpan 48 = .ok (.iinc 3 1, 3) := by decide +kernel
theorem dX10_isSilentSpan_51 : decode cX10_isSilentSpan 51 = .ok (.goto (-49), 3) := by decide +kernel
theorem dX10_isSilentSpan_54 : decode cX10_isSilentSpan 54 = .ok (.iconst 0, 1) := by decide +kernel
theorem dX10_isSilentSpan_55 : decode cX10_isSilentSpan 55 = .ok (.ireturn, 1) := by decide +kernel
theorem dX10_comeFinding_0 : decode cX10_comeFinding 0 = .ok (.iload_n 2, 1) := by decide +kernel
theorem dX10_comeFinding_1 : decode cX10_comeFinding 1 = .ok (.aload_n 0, 1) := by decide +kernel
theorem dX10_comeFinding_2 : decode cX10_comeFinding 2 = .ok (.iload_n 1, 1) := by decide +kernel
theorem dX10_comeFinding_3 : decode cX10_comeFinding 3 = .ok (.iconst 2, 1) := by decide +kernel
theorem dX10_comeFinding_4 : decode cX10_comeFinding 4 = .ok (.invokevirtual 127, 3) := by decide +kernel
theorem dX10_comeFinding_7 : decode cX10_comeFinding 7 = .ok (.iadd, 1) := by decide +kernel
theorem dX10_comeFinding_8 : decode cX10_comeFinding 8 = .ok (.iconst 1, 1) := by decide +kernel
theorem dX10_comeFinding_9 : decode cX10_comeFinding 9 = .ok (.isub, 1) := by decide +kernel
theorem dX10_comeFinding_10 : decode cX10_comeFinding 10 = .ok (.istore_n 3, 1) := by decide +kernel
theorem dX10_comeFinding_11 : decode cX10_comeFinding 11 = .ok (.aload_n 0, 1) := by decide +kernel
theorem dX10_comeFinding_12 : decode cX10_comeFinding 12 = .ok (.getfield 16, 3) := by decide +kernel
theorem dX10_comeFinding_15 : decode cX10_comeFinding 15 = .ok (.iload_n 2, 1) := by decide +kernel
theorem dX10_comeFinding_16 : decode cX10_comeFinding 16 = .ok (.iaload, 1) := by decide +kernel
theorem dX10_comeFinding_17 : decode cX10_comeFinding 17 = .ok (.istore 4, 2) := by decide +kernel
theorem dX10_comeFinding_19 : decode cX10_comeFinding 19 = .ok (.aload_n 0, 1) := by decide +kernel
theorem dX10_comeFinding_20 : decode cX10_comeFinding 20 = .ok (.getfield 16, 3) := by decide +kernel
theorem dX10_comeFinding_23 : decode cX10_comeFinding 23 = .ok (.iload_n 3, 1) := by decide +kernel
theorem dX10_comeFinding_24 : decode cX10_comeFinding 24 = .ok (.iaload, 1) := by decide +kernel
theorem dX10_comeFinding_25 : decode cX10_comeFinding 25 = .ok (.aload_n 0, 1) := by decide +kernel
theorem dX10_comeFinding_26 : decode cX10_comeFinding 26 = .ok (.getfield 19, 3) := by decide +kernel
theorem dX10_comeFinding_29 : decode cX10_comeFinding 29 = .ok (.iload_n 3, 1) := by decide +kernel
theorem dX10_comeFinding_30 : decode cX10_comeFinding 30 = .ok (.iaload, 1) := by decide +kernel
theorem dX10_comeFinding_31 : decode cX10_comeFinding 31 = .ok (.iadd, 1) := by decide +kernel
theorem dX10_comeFinding_32 : decode cX10_comeFinding 32 = .ok (.istore 5, 2) := by decide +kernel
theorem dX10_comeFinding_34 : decode cX10_comeFinding 34 = .ok (.aload_n 0, 1) := by decide +kernel
theorem dX10_comeFinding_35 : decode cX10_comeFinding 35 = .ok (.iload_n 1, 1) := by decide +kernel
theorem dX10_comeFinding_36 : decode cX10_comeFinding 36 = .ok (.iload_n 2, 1) := by decide +kernel
theorem dX10_comeFinding_37 : decode cX10_comeFinding 37 = .ok (.invokevirtual 169, 3) := by decide +kernel
theorem dX10_comeFinding_40 : decode cX10_comeFinding 40 = .ok (.aload_n 0, 1) := by decide +kernel
theorem dX10_comeFinding_41 : decode cX10_comeFinding 41 = .ok (.iload 4, 2) := by decide +kernel
theorem dX10_comeFinding_43 : decode cX10_comeFinding 43 = .ok (.iload 5, 2) := by decide +kernel
theorem dX10_comeFinding_45 : decode cX10_comeFinding 45 = .ok (.invokevirtual 172, 3) := by decide +kernel
theorem dX10_comeFinding_48 : decode cX10_comeFinding 48 = .ok (.ifCond .ne 4, 3) := by decide +kernel
theorem dX10_comeFinding_51 : decode cX10_comeFinding 51 = .ok (.return_, 1) := by decide +kernel
theorem dX10_comeFinding_52 : decode cX10_comeFinding 52 = .ok (.aload_n 0, 1) := by decide +kernel
theorem dX10_comeFinding_53 : decode cX10_comeFinding 53 = .ok (.getfield 175, 3) := by decide +kernel
theorem dX10_comeFinding_56 : decode cX10_comeFinding 56 = .ok (.istore 6, 2) := by decide +kernel
theorem dX10_comeFinding_58 : decode cX10_comeFinding 58 = .ok (.iload 6, 2) := by decide +kernel
theorem dX10_comeFinding_60 : decode cX10_comeFinding 60 = .ok (.ifCond .le 117, 3) := by decide +kernel
theorem dX10_comeFinding_63 : decode cX10_comeFinding 63 = .ok (.aload_n 0, 1) := by decide +kernel
theorem dX10_comeFinding_64 : decode cX10_comeFinding 64 = .ok (.getfield 31, 3) := by decide +kernel
theorem dX10_comeFinding_67 : decode cX10_comeFinding 67 = .ok (.iload 6, 2) := by decide +kernel
theorem dX10_comeFinding_69 : decode cX10_comeFinding 69 = .ok (.iconst 1, 1) := by decide +kernel
theorem dX10_comeFinding_70 : decode cX10_comeFinding 70 = .ok (.isub, 1) := by decide +kernel
theorem dX10_comeFinding_71 : decode cX10_comeFinding 71 = .ok (.iaload, 1) := by decide +kernel
theorem dX10_comeFinding_72 : decode cX10_comeFinding 72 = .ok (.iload 4, 2) := by decide +kernel
theorem dX10_comeFinding_74 : decode cX10_comeFinding 74 = .ok (.if_icmp .ne 103, 3) := by decide +kernel
theorem dX10_comeFinding_77 : decode cX10_comeFinding 77 = .ok (.aload_n 0, 1) := by decide +kernel
theorem dX10_comeFinding_78 : decode cX10_comeFinding 78 = .ok (.getfield 34, 3) := by decide +kernel
theorem dX10_comeFinding_81 : decode cX10_comeFinding 81 = .ok (.iload 6, 2) := by decide +kernel
theorem dX10_comeFinding_83 : decode cX10_comeFinding 83 = .ok (.iconst 1, 1) := by decide +kernel
theorem dX10_comeFinding_84 : decode cX10_comeFinding 84 = .ok (.isub, 1) := by decide +kernel
theorem dX10_comeFinding_85 : decode cX10_comeFinding 85 = .ok (.iaload, 1) := by decide +kernel
theorem dX10_comeFinding_86 : decode cX10_comeFinding 86 = .ok (.iload 5, 2) := by decide +kernel
theorem dX10_comeFinding_88 : decode cX10_comeFinding 88 = .ok (.if_icmp .le 89, 3) := by decide +kernel
theorem dX10_comeFinding_91 : decode cX10_comeFinding 91 = .ok (.aload_n 0, 1) := by decide +kernel
theorem dX10_comeFinding_92 : decode cX10_comeFinding 92 = .ok (.getfield 28, 3) := by decide +kernel
theorem dX10_comeFinding_95 : decode cX10_comeFinding 95 = .ok (.iload 6, 2) := by decide +kernel
theorem dX10_comeFinding_97 : decode cX10_comeFinding 97 = .ok (.aload_n 0, 1) := by decide +kernel
theorem dX10_comeFinding_98 : decode cX10_comeFinding 98 = .ok (.getfield 28, 3) := by decide +kernel
theorem dX10_comeFinding_101 : decode cX10_comeFinding 101 = .ok (.iload 6, 2) := by decide +kernel
theorem dX10_comeFinding_103 : decode cX10_comeFinding 103 = .ok (.iconst 1, 1) := by decide +kernel
theorem dX10_comeFinding_104 : decode cX10_comeFinding 104 = .ok (.isub, 1) := by decide +kernel
theorem dX10_comeFinding_105 : decode cX10_comeFinding 105 = .ok (.iaload, 1) := by decide +kernel
theorem dX10_comeFinding_106 : decode cX10_comeFinding 106 = .ok (.iastore, 1) := by decide +kernel
theorem dX10_comeFinding_107 : decode cX10_comeFinding 107 = .ok (.aload_n 0, 1) := by decide +kernel
theorem dX10_comeFinding_108 : decode cX10_comeFinding 108 = .ok (.getfield 31, 3) := by decide +kernel
theorem dX10_comeFinding_111 : decode cX10_comeFinding 111 = .ok (.iload 6, 2) := by decide +kernel
theorem dX10_comeFinding_113 : decode cX10_comeFinding 113 = .ok (.aload_n 0, 1) := by decide +kernel
theorem dX10_comeFinding_114 : decode cX10_comeFinding 114 = .ok (.getfield 31, 3) := by decide +kernel
theorem dX10_comeFinding_117 : decode cX10_comeFinding 117 = .ok (.iload 6, 2) := by decide +kernel
theorem dX10_comeFinding_119 : decode cX10_comeFinding 119 = .ok (.iconst 1, 1) := by decide +kernel
theorem dX10_comeFinding_120 : decode cX10_comeFinding 120 = .ok (.isub, 1) := by decide +kernel
theorem dX10_comeFinding_121 : decode cX10_comeFinding 121 = .ok (.iaload, 1) := by decide +kernel
theorem dX10_comeFinding_122 : decode cX10_comeFinding 122 = .ok (.iastore, 1) := by decide +kernel
theorem dX10_comeFinding_123 : decode cX10_comeFinding 123 = .ok (.aload_n 0, 1) := by decide +kernel
theorem dX10_comeFinding_124 : decode cX10_comeFinding 124 = .ok (.getfield 34, 3) := by decide +kernel
theorem dX10_comeFinding_127 : decode cX10_comeFinding 127 = .ok (.iload 6, 2) := by decide +kernel
theorem dX10_comeFinding_129 : decode cX10_comeFinding 129 = .ok (.aload_n 0, 1) := by decide +kernel
theorem dX10_comeFinding_130 : decode cX10_comeFinding 130 = .ok (.getfield 34, 3) := by decide +kernel
theorem dX10_comeFinding_133 : decode cX10_comeFinding 133 = .ok (.iload 6, 2) := by decide +kernel
theorem dX10_comeFinding_135 : decode cX10_comeFinding 135 = .ok (.iconst 1, 1) := by decide +kernel
theorem dX10_comeFinding_136 : decode cX10_comeFinding 136 = .ok (.isub, 1) := by decide +kernel
theorem dX10_comeFinding_137 : decode cX10_comeFinding 137 = .ok (.iaload, 1) := by decide +kernel
theorem dX10_comeFinding_138 : decode cX10_comeFinding 138 = .ok (.iastore, 1) := by decide +kernel
theorem dX10_comeFinding_139 : decode cX10_comeFinding 139 = .ok (.aload_n 0, 1) := by decide +kernel
theorem dX10_comeFinding_140 : decode cX10_comeFinding 140 = .ok (.getfield 37, 3) := by decide +kernel
theorem dX10_comeFinding_143 : decode cX10_comeFinding 143 = .ok (.iload 6, 2) := by decide +kernel
theorem dX10_comeFinding_145 : decode cX10_comeFinding 145 = .ok (.aload_n 0, 1) := by decide +kernel
theorem dX10_comeFinding_146 : decode cX10_comeFinding 146 = .ok (.getfield 37, 3) := by decide +kernel
theorem dX10_comeFinding_149 : decode cX10_comeFinding 149 = .ok (.iload 6, 2) := by decide +kernel
theorem dX10_comeFinding_151 : decode cX10_comeFinding 151 = .ok (.iconst 1, 1) := by decide +kernel
theorem dX10_comeFinding_152 : decode cX10_comeFinding 152 = .ok (.isub, 1) := by decide +kernel
theorem dX10_comeFinding_153 : decode cX10_comeFinding 153 = .ok (.iaload, 1) := by decide +kernel
theorem dX10_comeFinding_154 : decode cX10_comeFinding 154 = .ok (.iastore, 1) := by decide +kernel
theorem dX10_comeFinding_155 : decode cX10_comeFinding 155 = .ok (.aload_n 0, 1) := by decide +kernel
theorem dX10_comeFinding_156 : decode cX10_comeFinding 156 = .ok (.getfield 40, 3) := by decide +kernel
theorem dX10_comeFinding_159 : decode cX10_comeFinding 159 = .ok (.iload 6, 2) := by decide +kernel
theorem dX10_comeFinding_161 : decode cX10_comeFinding 161 = .ok (.aload_n 0, 1) := by decide +kernel
theorem dX10_comeFinding_162 : decode cX10_comeFinding 162 = .ok (.getfield 40, 3) := by decide +kernel
theorem dX10_comeFinding_165 : decode cX10_comeFinding 165 = .ok (.iload 6, 2) := by decide +kernel
theorem dX10_comeFinding_167 : decode cX10_comeFinding 167 = .ok (.iconst 1, 1) := by decide +kernel
theorem dX10_comeFinding_168 : decode cX10_comeFinding 168 = .ok (.isub, 1) := by decide +kernel
theorem dX10_comeFinding_169 : decode cX10_comeFinding 169 = .ok (.iaload, 1) := by decide +kernel
theorem dX10_comeFinding_170 : decode cX10_comeFinding 170 = .ok (.iastore, 1) := by decide +kernel
theorem dX10_comeFinding_171 : decode cX10_comeFinding 171 = .ok (.iinc 6 (-1), 3) := by decide +kernel
theorem dX10_comeFinding_174 : decode cX10_comeFinding 174 = .ok (.goto (-116), 3) := by decide +kernel
theorem dX10_comeFinding_177 : decode cX10_comeFinding 177 = .ok (.aload_n 0, 1) := by decide +kernel
theorem dX10_comeFinding_178 : decode cX10_comeFinding 178 = .ok (.getfield 28, 3) := by decide +kernel
theorem dX10_comeFinding_181 : decode cX10_comeFinding 181 = .ok (.iload 6, 2) := by decide +kernel
theorem dX10_comeFinding_183 : decode cX10_comeFinding 183 = .ok (.iload_n 1, 1) := by decide +kernel
theorem dX10_comeFinding_184 : decode cX10_comeFinding 184 = .ok (.iastore, 1) := by decide +kernel
theorem dX10_comeFinding_185 : decode cX10_comeFinding 185 = .ok (.aload_n 0, 1) := by decide +kernel
theorem dX10_comeFinding_186 : decode cX10_comeFinding 186 = .ok (.getfield 31, 3) := by decide +kernel
theorem dX10_comeFinding_189 : decode cX10_comeFinding 189 = .ok (.iload 6, 2) := by decide +kernel
theorem dX10_comeFinding_191 : decode cX10_comeFinding 191 = .ok (.iload 4, 2) := by decide +kernel
theorem dX10_comeFinding_193 : decode cX10_comeFinding 193 = .ok (.iastore, 1) := by decide +kernel
theorem dX10_comeFinding_194 : decode cX10_comeFinding 194 = .ok (.aload_n 0, 1) := by decide +kernel
theorem dX10_comeFinding_195 : decode cX10_comeFinding 195 = .ok (.getfield 34, 3) := by decide +kernel
theorem dX10_comeFinding_198 : decode cX10_comeFinding 198 = .ok (.iload 6, 2) := by decide +kernel
theorem dX10_comeFinding_200 : decode cX10_comeFinding 200 = .ok (.iload 5, 2) := by decide +kernel
theorem dX10_comeFinding_202 : decode cX10_comeFinding 202 = .ok (.iastore, 1) := by decide +kernel
theorem dX10_comeFinding_203 : decode cX10_comeFinding 203 = .ok (.aload_n 0, 1) := by decide +kernel
theorem dX10_comeFinding_204 : decode cX10_comeFinding 204 = .ok (.getfield 37, 3) := by decide +kernel
theorem dX10_comeFinding_207 : decode cX10_comeFinding 207 = .ok (.iload 6, 2) := by decide +kernel
theorem dX10_comeFinding_209 : decode cX10_comeFinding 209 = .ok (.iload_n 2, 1) := by decide +kernel
theorem dX10_comeFinding_210 : decode cX10_comeFinding 210 = .ok (.iastore, 1) := by decide +kernel
theorem dX10_comeFinding_211 : decode cX10_comeFinding 211 = .ok (.aload_n 0, 1) := by decide +kernel
theorem dX10_comeFinding_212 : decode cX10_comeFinding 212 = .ok (.getfield 40, 3) := by decide +kernel
theorem dX10_comeFinding_215 : decode cX10_comeFinding 215 = .ok (.iload 6, 2) := by decide +kernel
theorem dX10_comeFinding_217 : decode cX10_comeFinding 217 = .ok (.aload_n 0, 1) := by decide +kernel
theorem dX10_comeFinding_218 : decode cX10_comeFinding 218 = .ok (.getfield 148, 3) := by decide +kernel
theorem dX10_comeFinding_221 : decode cX10_comeFinding 221 = .ok (.iastore, 1) := by decide +kernel
theorem dX10_comeFinding_222 : decode cX10_comeFinding 222 = .ok (.aload_n 0, 1) := by decide +kernel
theorem dX10_comeFinding_223 : decode cX10_comeFinding 223 = .ok (.dup, 1) := by decide +kernel
theorem dX10_comeFinding_224 : decode cX10_comeFinding 224 = .ok (.getfield 175, 3) := by decide +kernel
theorem dX10_comeFinding_227 : decode cX10_comeFinding 227 = .ok (.iconst 1, 1) := by decide +kernel
theorem dX10_comeFinding_228 : decode cX10_comeFinding 228 = .ok (.iadd, 1) := by decide +kernel
theorem dX10_comeFinding_229 : decode cX10_comeFinding 229 = .ok (.putfield 175, 3) := by decide +kernel
theorem dX10_comeFinding_232 : decode cX10_comeFinding 232 = .ok (.return_, 1) := by decide +kernel
theorem dX10_areTogether_0 : decode cX10_areTogether 0 = .ok (.aload_n 0, 1) := by decide +kernel
theorem dX10_areTogether_1 : decode cX10_areTogether 1 = .ok (.getfield 31, 3) := by decide +kernel
theorem dX10_areTogether_4 : decode cX10_areTogether 4 = .ok (.iload_n 1, 1) := by decide +kernel
theorem dX10_areTogether_5 : decode cX10_areTogether 5 = .ok (.iaload, 1) := by decide +kernel
theorem dX10_areTogether_6 : decode cX10_areTogether 6 = .ok (.aload_n 0, 1) := by decide +kernel
theorem dX10_areTogether_7 : decode cX10_areTogether 7 = .ok (.getfield 34, 3) := by decide +kernel
theorem dX10_areTogether_10 : decode cX10_areTogether 10 = .ok (.iload_n 2, 1) := by decide +kernel
theorem dX10_areTogether_11 : decode cX10_areTogether 11 = .ok (.iaload, 1) := by decide +kernel
theorem dX10_areTogether_12 : decode cX10_areTogether 12 = .ok (.if_icmp .ge 22, 3) := by decide +kernel
theorem dX10_areTogether_15 : decode cX10_areTogether 15 = .ok (.aload_n 0, 1) := by decide +kernel
theorem dX10_areTogether_16 : decode cX10_areTogether 16 = .ok (.getfield 31, 3) := by decide +kernel
theorem dX10_areTogether_19 : decode cX10_areTogether 19 = .ok (.iload_n 2, 1) := by decide +kernel
theorem dX10_areTogether_20 : decode cX10_areTogether 20 = .ok (.iaload, 1) := by decide +kernel
theorem dX10_areTogether_21 : decode cX10_areTogether 21 = .ok (.aload_n 0, 1) := by decide +kernel
theorem dX10_areTogether_22 : decode cX10_areTogether 22 = .ok (.getfield 34, 3) := by decide +kernel
theorem dX10_areTogether_25 : decode cX10_areTogether 25 = .ok (.iload_n 1, 1) := by decide +kernel
theorem dX10_areTogether_26 : decode cX10_areTogether 26 = .ok (.iaload, 1) := by decide +kernel
theorem dX10_areTogether_27 : decode cX10_areTogether 27 = .ok (.if_icmp .ge 7, 3) := by decide +kernel
theorem dX10_areTogether_30 : decode cX10_areTogether 30 = .ok (.iconst 1, 1) := by decide +kernel
theorem dX10_areTogether_31 : decode cX10_areTogether 31 = .ok (.goto 4, 3) := by decide +kernel
theorem dX10_areTogether_34 : decode cX10_areTogether 34 = .ok (.iconst 0, 1) := by decide +kernel
theorem dX10_areTogether_35 : decode cX10_areTogether 35 = .ok (.ireturn, 1) := by decide +kernel
theorem dX10_yieldsTo_0 : decode cX10_yieldsTo 0 = .ok (.iconst 0, 1) := by decide +kernel
theorem dX10_yieldsTo_1 : decode cX10_yieldsTo 1 = .ok (.istore_n 3, 1) := by decide +kernel
theorem dX10_yieldsTo_2 : decode cX10_yieldsTo 2 = .ok (.iload_n 3, 1) := by decide +kernel
theorem dX10_yieldsTo_3 : decode cX10_yieldsTo 3 = .ok (.aload_n 0, 1) := by decide +kernel
theorem dX10_yieldsTo_4 : decode cX10_yieldsTo 4 = .ok (.getfield 7, 3) := by decide +kernel
theorem dX10_yieldsTo_7 : decode cX10_yieldsTo 7 = .ok (.bipush 7, 2) := by decide +kernel
theorem dX10_yieldsTo_9 : decode cX10_yieldsTo 9 = .ok (.iaload, 1) := by decide +kernel
theorem dX10_yieldsTo_10 : decode cX10_yieldsTo 10 = .ok (.if_icmp .ge 45, 3) := by decide +kernel
theorem dX10_yieldsTo_13 : decode cX10_yieldsTo 13 = .ok (.aload_n 0, 1) := by decide +kernel
theorem dX10_yieldsTo_14 : decode cX10_yieldsTo 14 = .ok (.getfield 7, 3) := by decide +kernel
theorem dX10_yieldsTo_17 : decode cX10_yieldsTo 17 = .ok (.sipush 426, 3) := by decide +kernel
theorem dX10_yieldsTo_20 : decode cX10_yieldsTo 20 = .ok (.iconst 2, 1) := by decide +kernel
theorem dX10_yieldsTo_21 : decode cX10_yieldsTo 21 = .ok (.iload_n 3, 1) := by decide +kernel
theorem dX10_yieldsTo_22 : decode cX10_yieldsTo 22 = .ok (.imul, 1) := by decide +kernel
theorem dX10_yieldsTo_23 : decode cX10_yieldsTo 23 = .ok (.iadd, 1) := by decide +kernel
theorem dX10_yieldsTo_24 : decode cX10_yieldsTo 24 = .ok (.iaload, 1) := by decide +kernel
theorem dX10_yieldsTo_25 : decode cX10_yieldsTo 25 = .ok (.iload_n 2, 1) := by decide +kernel
theorem dX10_yieldsTo_26 : decode cX10_yieldsTo 26 = .ok (.if_icmp .ne 23, 3) := by decide +kernel
theorem dX10_yieldsTo_29 : decode cX10_yieldsTo 29 = .ok (.aload_n 0, 1) := by decide +kernel
theorem dX10_yieldsTo_30 : decode cX10_yieldsTo 30 = .ok (.getfield 7, 3) := by decide +kernel
theorem dX10_yieldsTo_33 : decode cX10_yieldsTo 33 = .ok (.sipush 426, 3) := by decide +kernel
theorem dX10_yieldsTo_36 : decode cX10_yieldsTo 36 = .ok (.iconst 2, 1) := by decide +kernel
theorem dX10_yieldsTo_37 : decode cX10_yieldsTo 37 = .ok (.iload_n 3, 1) := by decide +kernel
theorem dX10_yieldsTo_38 : decode cX10_yieldsTo 38 = .ok (.imul, 1) := by decide +kernel
theorem dX10_yieldsTo_39 : decode cX10_yieldsTo 39 = .ok (.iadd, 1) := by decide +kernel
theorem dX10_yieldsTo_40 : decode cX10_yieldsTo 40 = .ok (.iconst 1, 1) := by decide +kernel
theorem dX10_yieldsTo_41 : decode cX10_yieldsTo 41 = .ok (.iadd, 1) := by decide +kernel
theorem dX10_yieldsTo_42 : decode cX10_yieldsTo 42 = .ok (.iaload, 1) := by decide +kernel
theorem dX10_yieldsTo_43 : decode cX10_yieldsTo 43 = .ok (.iload_n 1, 1) := by decide +kernel
theorem dX10_yieldsTo_44 : decode cX10_yieldsTo 44 = .ok (.if_icmp .ne 5, 3) := by decide +kernel
theorem dX10_yieldsTo_47 : decode cX10_yieldsTo 47 = .ok (.iconst 1, 1) := by decide +kernel
theorem dX10_yieldsTo_48 : decode cX10_yieldsTo 48 = .ok (.ireturn, 1) := by decide +kernel
theorem dX10_yieldsTo_49 : decode cX10_yieldsTo 49 = .ok (.iinc 3 1, 3) := by decide +kernel
theorem dX10_yieldsTo_52 : decode cX10_yieldsTo 52 = .ok (.goto (-50), 3) := by decide +kernel
theorem dX10_yieldsTo_55 : decode cX10_yieldsTo 55 = .ok (.iconst 0, 1) := by decide +kernel
theorem dX10_yieldsTo_56 : decode cX10_yieldsTo 56 = .ok (.ireturn, 1) := by decide +kernel
theorem dX10_isYielded_0 : decode cX10_isYielded 0 = .ok (.iconst 0, 1) := by decide +kernel
theorem dX10_isYielded_1 : decode cX10_isYielded 1 = .ok (.istore_n 2, 1) := by decide +kernel
theorem dX10_isYielded_2 : decode cX10_isYielded 2 = .ok (.iload_n 2, 1) := by decide +kernel
theorem dX10_isYielded_3 : decode cX10_isYielded 3 = .ok (.aload_n 0, 1) := by decide +kernel
theorem dX10_isYielded_4 : decode cX10_isYielded 4 = .ok (.getfield 175, 3) := by decide +kernel
theorem dX10_isYielded_7 : decode cX10_isYielded 7 = .ok (.if_icmp .ge 58, 3) := by decide +kernel
theorem dX10_isYielded_10 : decode cX10_isYielded 10 = .ok (.aload_n 0, 1) := by decide +kernel
theorem dX10_isYielded_11 : decode cX10_isYielded 11 = .ok (.getfield 7, 3) := by decide +kernel
theorem dX10_isYielded_14 : decode cX10_isYielded 14 = .ok (.bipush 7, 2) := by decide +kernel
theorem dX10_isYielded_16 : decode cX10_isYielded 16 = .ok (.iaload, 1) := by decide +kernel
theorem dX10_isYielded_17 : decode cX10_isYielded 17 = .ok (.ifCond .le 48, 3) := by decide +kernel
theorem dX10_isYielded_20 : decode cX10_isYielded 20 = .ok (.aload_n 0, 1) := by decide +kernel
theorem dX10_isYielded_21 : decode cX10_isYielded 21 = .ok (.getfield 46, 3) := by decide +kernel
theorem dX10_isYielded_24 : decode cX10_isYielded 24 = .ok (.iload_n 2, 1) := by decide +kernel
theorem dX10_isYielded_25 : decode cX10_isYielded 25 = .ok (.baload, 1) := by decide +kernel
theorem dX10_isYielded_26 : decode cX10_isYielded 26 = .ok (.ifCond .ne 33, 3) := by decide +kernel
theorem dX10_isYielded_29 : decode cX10_isYielded 29 = .ok (.aload_n 0, 1) := by decide +kernel
theorem dX10_isYielded_30 : decode cX10_isYielded 30 = .ok (.iload_n 1, 1) := by decide +kernel
theorem dX10_isYielded_31 : decode cX10_isYielded 31 = .ok (.iload_n 2, 1) := by decide +kernel
theorem dX10_isYielded_32 : decode cX10_isYielded 32 = .ok (.invokevirtual 178, 3) := by decide +kernel
theorem dX10_isYielded_35 : decode cX10_isYielded 35 = .ok (.ifCond .eq 24, 3) := by decide +kernel
theorem dX10_isYielded_38 : decode cX10_isYielded 38 = .ok (.aload_n 0, 1) := by decide +kernel
theorem dX10_isYielded_39 : decode cX10_isYielded 39 = .ok (.aload_n 0, 1) := by decide +kernel
theorem dX10_isYielded_40 : decode cX10_isYielded 40 = .ok (.getfield 28, 3) := by decide +kernel
theorem dX10_isYielded_43 : decode cX10_isYielded 43 = .ok (.iload_n 1, 1) := by decide +kernel
theorem dX10_isYielded_44 : decode cX10_isYielded 44 = .ok (.iaload, 1) := by decide +kernel
theorem dX10_isYielded_45 : decode cX10_isYielded 45 = .ok (.aload_n 0, 1) := by decide +kernel
theorem dX10_isYielded_46 : decode cX10_isYielded 46 = .ok (.getfield 28, 3) := by decide +kernel
theorem dX10_isYielded_49 : decode cX10_isYielded 49 = .ok (.iload_n 2, 1) := by decide +kernel
theorem dX10_isYielded_50 : decode cX10_isYielded 50 = .ok (.iaload, 1) := by decide +kernel
theorem dX10_isYielded_51 : decode cX10_isYielded 51 = .ok (.invokevirtual 181, 3) := by decide +kernel
theorem dX10_isYielded_54 : decode cX10_isYielded 54 = .ok (.ifCond .eq 5, 3) := by decide +kernel
theorem dX10_isYielded_57 : decode cX10_isYielded 57 = .ok (.iconst 1, 1) := by decide +kernel
theorem dX10_isYielded_58 : decode cX10_isYielded 58 = .ok (.ireturn, 1) := by decide +kernel
theorem dX10_isYielded_59 : decode cX10_isYielded 59 = .ok (.iinc 2 1, 3) := by decide +kernel
theorem dX10_isYielded_62 : decode cX10_isYielded 62 = .ok (.goto (-60), 3) := by decide +kernel
theorem dX10_isYielded_65 : decode cX10_isYielded 65 = .ok (.iconst 0, 1) := by decide +kernel
theorem dX10_isYielded_66 : decode cX10_isYielded 66 = .ok (.ireturn, 1) := by decide +kernel
theorem dX10_layFindings_0 : decode cX10_layFindings 0 = .ok (.aload_n 0, 1) := by decide +kernel
theorem dX10_layFindings_1 : decode cX10_layFindings 1 = .ok (.invokevirtual 184, 3) := by decide +kernel
theorem dX10_layFindings_4 : decode cX10_layFindings 4 = .ok (.aload_n 0, 1) := by decide +kernel
theorem dX10_layFindings_5 : decode cX10_layFindings 5 = .ok (.iconst 0, 1) := by decide +kernel
theorem dX10_layFindings_6 : decode cX10_layFindings 6 = .ok (.putfield 175, 3) := by decide +kernel
theorem dX10_layFindings_9 : decode cX10_layFindings 9 = .ok (.iconst 0, 1) := by decide +kernel
theorem dX10_layFindings_10 : decode cX10_layFindings 10 = .ok (.istore_n 1, 1) := by decide +kernel
theorem dX10_layFindings_11 : decode cX10_layFindings 11 = .ok (.iload_n 1, 1) := by decide +kernel
theorem dX10_layFindings_12 : decode cX10_layFindings 12 = .ok (.aload_n 0, 1) := by decide +kernel
theorem dX10_layFindings_13 : decode cX10_layFindings 13 = .ok (.getfield 117, 3) := by decide +kernel
theorem dX10_layFindings_16 : decode cX10_layFindings 16 = .ok (.if_icmp .ge 52, 3) := by decide +kernel
theorem dX10_layFindings_19 : decode cX10_layFindings 19 = .ok (.iconst 0, 1) := by decide +kernel
theorem dX10_layFindings_20 : decode cX10_layFindings 20 = .ok (.istore_n 2, 1) := by decide +kernel
theorem dX10_layFindings_21 : decode cX10_layFindings 21 = .ok (.iload_n 2, 1) := by decide +kernel
theorem dX10_layFindings_22 : decode cX10_layFindings 22 = .ok (.aload_n 0, 1) := by decide +kernel
theorem dX10_layFindings_23 : decode cX10_layFindings 23 = .ok (.getfield 7, 3) := by decide +kernel
theorem dX10_layFindings_26 : decode cX10_layFindings 26 = .ok (.iconst 4, 1) := by decide +kernel
theorem dX10_layFindings_27 : decode cX10_layFindings 27 = .ok (.iaload, 1) := by decide +kernel
theorem dX10_layFindings_28 : decode cX10_layFindings 28 = .ok (.if_icmp .ge 34, 3) := by decide +kernel
theorem dX10_layFindings_31 : decode cX10_layFindings 31 = .ok (.aload_n 0, 1) := by decide +kernel
theorem dX10_layFindings_32 : decode cX10_layFindings 32 = .ok (.iload_n 2, 1) := by decide +kernel
theorem dX10_layFindings_33 : decode cX10_layFindings 33 = .ok (.iconst 1, 1) := by decide +kernel
theorem dX10_layFindings_34 : decode cX10_layFindings 34 = .ok (.invokevirtual 127, 3) := by decide +kernel
theorem dX10_layFindings_37 : decode cX10_layFindings 37 = .ok (.iconst 1, 1) := by decide +kernel
theorem dX10_layFindings_38 : decode cX10_layFindings 38 = .ok (.if_icmp .ne 18, 3) := by decide +kernel
theorem dX10_layFindings_41 : decode cX10_layFindings 41 = .ok (.aload_n 0, 1) := by decide +kernel
theorem dX10_layFindings_42 : decode cX10_layFindings 42 = .ok (.iload_n 2, 1) := by decide +kernel
theorem dX10_layFindings_43 : decode cX10_layFindings 43 = .ok (.iload_n 1, 1) := by decide +kernel
theorem dX10_layFindings_44 : decode cX10_layFindings 44 = .ok (.invokevirtual 162, 3) := by decide +kernel
theorem dX10_layFindings_47 : decode cX10_layFindings 47 = .ok (.ifCond .eq 9, 3) := by decide +kernel
theorem dX10_layFindings_50 : decode cX10_layFindings 50 = .ok (.aload_n 0, 1) := by decide +kernel
theorem dX10_layFindings_51 : decode cX10_layFindings 51 = .ok (.iload_n 2, 1) := by decide +kernel
theorem dX10_layFindings_52 : decode cX10_layFindings 52 = .ok (.iload_n 1, 1) := by decide +kernel
theorem dX10_layFindings_53 : decode cX10_layFindings 53 = .ok (.invokevirtual 187, 3) := by decide +kernel
theorem dX10_layFindings_56 : decode cX10_layFindings 56 = .ok (.iinc 2 1, 3) := by decide +kernel
theorem dX10_layFindings_59 : decode cX10_layFindings 59 = .ok (.goto (-38), 3) := by decide +kernel
theorem dX10_layFindings_62 : decode cX10_layFindings 62 = .ok (.iinc 1 1, 3) := by decide +kernel
theorem dX10_layFindings_65 : decode cX10_layFindings 65 = .ok (.goto (-54), 3) := by decide +kernel
theorem dX10_layFindings_68 : decode cX10_layFindings 68 = .ok (.iconst 0, 1) := by decide +kernel
theorem dX10_layFindings_69 : decode cX10_layFindings 69 = .ok (.istore_n 1, 1) := by decide +kernel
theorem dX10_layFindings_70 : decode cX10_layFindings 70 = .ok (.iload_n 1, 1) := by decide +kernel
theorem dX10_layFindings_71 : decode cX10_layFindings 71 = .ok (.aload_n 0, 1) := by decide +kernel
theorem dX10_layFindings_72 : decode cX10_layFindings 72 = .ok (.getfield 175, 3) := by decide +kernel
theorem dX10_layFindings_75 : decode cX10_layFindings 75 = .ok (.if_icmp .ge 60, 3) := by decide +kernel
theorem dX10_layFindings_78 : decode cX10_layFindings 78 = .ok (.aload_n 0, 1) := by decide +kernel
theorem dX10_layFindings_79 : decode cX10_layFindings 79 = .ok (.getfield 43, 3) := by decide +kernel
theorem dX10_layFindings_82 : decode cX10_layFindings 82 = .ok (.iload_n 1, 1) := by decide +kernel
theorem dX10_layFindings_83 : decode cX10_layFindings 83 = .ok (.aload_n 0, 1) := by decide +kernel
theorem dX10_layFindings_84 : decode cX10_layFindings 84 = .ok (.aload_n 0, 1) := by decide +kernel
theorem dX10_layFindings_85 : decode cX10_layFindings 85 = .ok (.getfield 28, 3) := by decide +kernel
theorem dX10_layFindings_88 : decode cX10_layFindings 88 = .ok (.iload_n 1, 1) := by decide +kernel
theorem dX10_layFindings_89 : decode cX10_layFindings 89 = .ok (.iaload, 1) := by decide +kernel
theorem dX10_layFindings_90 : decode cX10_layFindings 90 = .ok (.aload_n 0, 1) := by decide +kernel
theorem dX10_layFindings_91 : decode cX10_layFindings 91 = .ok (.getfield 34, 3) := by decide +kernel
theorem dX10_layFindings_94 : decode cX10_layFindings 94 = .ok (.iload_n 1, 1) := by decide +kernel
theorem dX10_layFindings_95 : decode cX10_layFindings 95 = .ok (.iaload, 1) := by decide +kernel
theorem dX10_layFindings_96 : decode cX10_layFindings 96 = .ok (.aload_n 0, 1) := by decide +kernel
theorem dX10_layFindings_97 : decode cX10_layFindings 97 = .ok (.getfield 31, 3) := by decide +kernel
theorem dX10_layFindings_100 : decode cX10_layFindings 100 = .ok (.iload_n 1, 1) := by decide +kernel
theorem dX10_layFindings_101 : decode cX10_layFindings 101 = .ok (.iaload, 1) := by decide +kernel
theorem dX10_layFindings_102 : decode cX10_layFindings 102 = .ok (.isub, 1) := by decide +kernel
theorem dX10_layFindings_103 : decode cX10_layFindings 103 = .ok (.invokevirtual 190, 3) := by decide +kernel
theorem dX10_layFindings_106 : decode cX10_layFindings 106 = .ok (.iastore, 1) := by decide +kernel
theorem dX10_layFindings_107 : decode cX10_layFindings 107 = .ok (.aload_n 0, 1) := by decide +kernel
theorem dX10_layFindings_108 : decode cX10_layFindings 108 = .ok (.getfield 46, 3) := by decide +kernel
theorem dX10_layFindings_111 : decode cX10_layFindings 111 = .ok (.iload_n 1, 1) := by decide +kernel
theorem dX10_layFindings_112 : decode cX10_layFindings 112 = .ok (.aload_n 0, 1) := by decide +kernel
theorem dX10_layFindings_113 : decode cX10_layFindings 113 = .ok (.aload_n 0, 1) := by decide +kernel
theorem dX10_layFindings_114 : decode cX10_layFindings 114 = .ok (.getfield 31, 3) := by decide +kernel
theorem dX10_layFindings_117 : decode cX10_layFindings 117 = .ok (.iload_n 1, 1) := by decide +kernel
theorem dX10_layFindings_118 : decode cX10_layFindings 118 = .ok (.iaload, 1) := by decide +kernel
theorem dX10_layFindings_119 : decode cX10_layFindings 119 = .ok (.aload_n 0, 1) := by decide +kernel
theorem dX10_layFindings_120 : decode cX10_layFindings 120 = .ok (.getfield 34, 3) := by decide +kernel
theorem dX10_layFindings_123 : decode cX10_layFindings 123 = .ok (.iload_n 1, 1) := by decide +kernel
theorem dX10_layFindings_124 : decode cX10_layFindings 124 = .ok (.iaload, 1) := by decide +kernel
theorem dX10_layFindings_125 : decode cX10_layFindings 125 = .ok (.invokevirtual 193, 3) := by decide +kernel
theorem dX10_layFindings_128 : decode cX10_layFindings 128 = .ok (.bastore, 1) := by decide +kernel
theorem dX10_layFindings_129 : decode cX10_layFindings 129 = .ok (.iinc 1 1, 3) := by decide +kernel
theorem dX10_layFindings_132 : decode cX10_layFindings 132 = .ok (.goto (-62), 3) := by decide +kernel
theorem dX10_layFindings_135 : decode cX10_layFindings 135 = .ok (.iconst 0, 1) := by decide +kernel
theorem dX10_layFindings_136 : decode cX10_layFindings 136 = .ok (.istore_n 1, 1) := by decide +kernel
theorem dX10_layFindings_137 : decode cX10_layFindings 137 = .ok (.iload_n 1, 1) := by decide +kernel
theorem dX10_layFindings_138 : decode cX10_layFindings 138 = .ok (.aload_n 0, 1) := by decide +kernel
theorem dX10_layFindings_139 : decode cX10_layFindings 139 = .ok (.getfield 175, 3) := by decide +kernel
theorem dX10_layFindings_142 : decode cX10_layFindings 142 = .ok (.if_icmp .ge 20, 3) := by decide +kernel
theorem dX10_layFindings_145 : decode cX10_layFindings 145 = .ok (.aload_n 0, 1) := by decide +kernel
theorem dX10_layFindings_146 : decode cX10_layFindings 146 = .ok (.getfield 50, 3) := by decide +kernel
theorem dX10_layFindings_149 : decode cX10_layFindings 149 = .ok (.iload_n 1, 1) := by decide +kernel
theorem dX10_layFindings_150 : decode cX10_layFindings 150 = .ok (.aload_n 0, 1) := by decide +kernel
theorem dX10_layFindings_151 : decode cX10_layFindings 151 = .ok (.iload_n 1, 1) := by decide +kernel
theorem dX10_layFindings_152 : decode cX10_layFindings 152 = .ok (.invokevirtual 196, 3) := by decide +kernel
theorem dX10_layFindings_155 : decode cX10_layFindings 155 = .ok (.bastore, 1) := by decide +kernel
theorem dX10_layFindings_156 : decode cX10_layFindings 156 = .ok (.iinc 1 1, 3) := by decide +kernel
theorem dX10_layFindings_159 : decode cX10_layFindings 159 = .ok (.goto (-22), 3) := by decide +kernel
theorem dX10_layFindings_162 : decode cX10_layFindings 162 = .ok (.aload_n 0, 1) := by decide +kernel
theorem dX10_layFindings_163 : decode cX10_layFindings 163 = .ok (.invokevirtual 199, 3) := by decide +kernel
theorem dX10_layFindings_166 : decode cX10_layFindings 166 = .ok (.return_, 1) := by decide +kernel
theorem dX10_isFree_0 : decode cX10_isFree 0 = .ok (.aload_n 0, 1) := by decide +kernel
theorem dX10_isFree_1 : decode cX10_isFree 1 = .ok (.getfield 46, 3) := by decide +kernel
theorem dX10_isFree_4 : decode cX10_isFree 4 = .ok (.iload_n 1, 1) := by decide +kernel
theorem dX10_isFree_5 : decode cX10_isFree 5 = .ok (.baload, 1) := by decide +kernel
theorem dX10_isFree_6 : decode cX10_isFree 6 = .ok (.ifCond .ne 16, 3) := by decide +kernel
theorem dX10_isFree_9 : decode cX10_isFree 9 = .ok (.aload_n 0, 1) := by decide +kernel
theorem dX10_isFree_10 : decode cX10_isFree 10 = .ok (.getfield 50, 3) := by decide +kernel
theorem dX10_isFree_13 : decode cX10_isFree 13 = .ok (.iload_n 1, 1) := by decide +kernel
theorem dX10_isFree_14 : decode cX10_isFree 14 = .ok (.baload, 1) := by decide +kernel
theorem dX10_isFree_15 : decode cX10_isFree 15 = .ok (.ifCond .ne 7, 3) := by decide +kernel
theorem dX10_isFree_18 : decode cX10_isFree 18 = .ok (.iconst 1, 1) := by decide +kernel
theorem dX10_isFree_19 : decode cX10_isFree 19 = .ok (.goto 4, 3) := by decide +kernel
theorem dX10_isFree_22 : decode cX10_isFree 22 = .ok (.iconst 0, 1) := by decide +kernel
theorem dX10_isFree_23 : decode cX10_isFree 23 = .ok (.ireturn, 1) := by decide +kernel
theorem dX10_behind_0 : decode cX10_behind 0 = .ok (.iload_n 1, 1) := by decide +kernel
theorem dX10_behind_1 : decode cX10_behind 1 = .ok (.iconst 1, 1) := by decide +kernel
theorem dX10_behind_2 : decode cX10_behind 2 = .ok (.iadd, 1) := by decide +kernel
theorem dX10_behind_3 : decode cX10_behind 3 = .ok (.istore_n 2, 1) := by decide +kernel
theorem dX10_behind_4 : decode cX10_behind 4 = .ok (.iload_n 2, 1) := by decide +kernel
theorem dX10_behind_5 : decode cX10_behind 5 = .ok (.aload_n 0, 1) := by decide +kernel
theorem dX10_behind_6 : decode cX10_behind 6 = .ok (.getfield 175, 3) := by decide +kernel
theorem dX10_behind_9 : decode cX10_behind 9 = .ok (.if_icmp .ge 24, 3) := by decide +kernel
theorem dX10_behind_12 : decode cX10_behind 12 = .ok (.aload_n 0, 1) := by decide +kernel
theorem dX10_behind_13 : decode cX10_behind 13 = .ok (.getfield 31, 3) := by decide +kernel
theorem dX10_behind_16 : decode cX10_behind 16 = .ok (.iload_n 2, 1) := by decide +kernel
theorem dX10_behind_17 : decode cX10_behind 17 = .ok (.iaload, 1) := by decide +kernel
theorem dX10_behind_18 : decode cX10_behind 18 = .ok (.aload_n 0, 1) := by decide +kernel
theorem dX10_behind_19 : decode cX10_behind 19 = .ok (.getfield 34, 3) := by decide +kernel
theorem dX10_behind_22 : decode cX10_behind 22 = .ok (.iload_n 1, 1) := by decide +kernel
theorem dX10_behind_23 : decode cX10_behind 23 = .ok (.iaload, 1) := by decide +kernel
theorem dX10_behind_24 : decode cX10_behind 24 = .ok (.if_icmp .ge 9, 3) := by decide +kernel
theorem dX10_behind_27 : decode cX10_behind 27 = .ok (.iinc 2 1, 3) := by decide +kernel
theorem dX10_behind_30 : decode cX10_behind 30 = .ok (.goto (-26), 3) := by decide +kernel
theorem dX10_behind_33 : decode cX10_behind 33 = .ok (.iload_n 2, 1) := by decide +kernel
theorem dX10_behind_34 : decode cX10_behind 34 = .ok (.ireturn, 1) := by decide +kernel
theorem dX10_laySet_0 : decode cX10_laySet 0 = .ok (.iconst 0, 1) := by decide +kernel
theorem dX10_laySet_1 : decode cX10_laySet 1 = .ok (.istore_n 1, 1) := by decide +kernel
theorem dX10_laySet_2 : decode cX10_laySet 2 = .ok (.iload_n 1, 1) := by decide +kernel
theorem dX10_laySet_3 : decode cX10_laySet 3 = .ok (.bipush 21, 2) := by decide +kernel
theorem dX10_laySet_5 : decode cX10_laySet 5 = .ok (.if_icmp .ge 39, 3) := by decide +kernel
theorem dX10_laySet_8 : decode cX10_laySet 8 = .ok (.aload_n 0, 1) := by decide +kernel
theorem dX10_laySet_9 : decode cX10_laySet 9 = .ok (.getfield 56, 3) := by decide +kernel
theorem dX10_laySet_12 : decode cX10_laySet 12 = .ok (.bipush 21, 2) := by decide +kernel
theorem dX10_laySet_14 : decode cX10_laySet 14 = .ok (.aload_n 0, 1) := by decide +kernel
theorem dX10_laySet_15 : decode cX10_laySet 15 = .ok (.getfield 175, 3) := by decide +kernel
theorem dX10_laySet_18 : decode cX10_laySet 18 = .ok (.imul, 1) := by decide +kernel
theorem dX10_laySet_19 : decode cX10_laySet 19 = .ok (.iload_n 1, 1) := by decide +kernel
theorem dX10_laySet_20 : decode cX10_laySet 20 = .ok (.iadd, 1) := by decide +kernel
theorem dX10_laySet_21 : decode cX10_laySet 21 = .ok (.iconst 0, 1) := by decide +kernel
theorem dX10_laySet_22 : decode cX10_laySet 22 = .ok (.iastore, 1) := by decide +kernel
theorem dX10_laySet_23 : decode cX10_laySet 23 = .ok (.aload_n 0, 1) := by decide +kernel
theorem dX10_laySet_24 : decode cX10_laySet 24 = .ok (.getfield 59, 3) := by decide +kernel
theorem dX10_laySet_27 : decode cX10_laySet 27 = .ok (.bipush 21, 2) := by decide +kernel
theorem dX10_laySet_29 : decode cX10_laySet 29 = .ok (.aload_n 0, 1) := by decide +kernel
theorem dX10_laySet_30 : decode cX10_laySet 30 = .ok (.getfield 175, 3) := by decide +kernel
theorem dX10_laySet_33 : decode cX10_laySet 33 = .ok (.imul, 1) := by decide +kernel
theorem dX10_laySet_34 : decode cX10_laySet 34 = .ok (.iload_n 1, 1) := by decide +kernel
theorem dX10_laySet_35 : decode cX10_laySet 35 = .ok (.iadd, 1) := by decide +kernel
theorem dX10_laySet_36 : decode cX10_laySet 36 = .ok (.iconst 0, 1) := by decide +kernel
theorem dX10_laySet_37 : decode cX10_laySet 37 = .ok (.iastore, 1) := by decide +kernel
theorem dX10_laySet_38 : decode cX10_laySet 38 = .ok (.iinc 1 1, 3) := by decide +kernel
theorem dX10_laySet_41 : decode cX10_laySet 41 = .ok (.goto (-39), 3) := by decide +kernel
theorem dX10_laySet_44 : decode cX10_laySet 44 = .ok (.aload_n 0, 1) := by decide +kernel
theorem dX10_laySet_45 : decode cX10_laySet 45 = .ok (.getfield 175, 3) := by decide +kernel
theorem dX10_laySet_48 : decode cX10_laySet 48 = .ok (.iconst 1, 1) := by decide +kernel
theorem dX10_laySet_49 : decode cX10_laySet 49 = .ok (.isub, 1) := by decide +kernel
theorem dX10_laySet_50 : decode cX10_laySet 50 = .ok (.istore_n 1, 1) := by decide +kernel
theorem dX10_laySet_51 : decode cX10_laySet 51 = .ok (.iload_n 1, 1) := by decide +kernel
theorem dX10_laySet_52 : decode cX10_laySet 52 = .ok (.ifCond .lt 191, 3) := by decide +kernel
theorem dX10_laySet_55 : decode cX10_laySet 55 = .ok (.aload_n 0, 1) := by decide +kernel
theorem dX10_laySet_56 : decode cX10_laySet 56 = .ok (.iload_n 1, 1) := by decide +kernel
theorem dX10_laySet_57 : decode cX10_laySet 57 = .ok (.invokevirtual 202, 3) := by decide +kernel
theorem dX10_laySet_60 : decode cX10_laySet 60 = .ok (.ifCond .eq 11, 3) := by decide +kernel
theorem dX10_laySet_63 : decode cX10_laySet 63 = .ok (.aload_n 0, 1) := by decide +kernel
theorem dX10_laySet_64 : decode cX10_laySet 64 = .ok (.iload_n 1, 1) := by decide +kernel
theorem dX10_laySet_65 : decode cX10_laySet 65 = .ok (.invokevirtual 205, 3) := by decide +kernel
theorem dX10_laySet_68 : decode cX10_laySet 68 = .ok (.goto 4, 3) := by decide +kernel
theorem dX10_laySet_71 : decode cX10_laySet 71 = .ok (.iconst (-1), 1) := by decide +kernel
theorem dX10_laySet_72 : decode cX10_laySet 72 = .ok (.istore_n 2, 1) := by decide +kernel
theorem dX10_laySet_73 : decode cX10_laySet 73 = .ok (.iconst 0, 1) := by decide +kernel
theorem dX10_laySet_74 : decode cX10_laySet 74 = .ok (.istore_n 3, 1) := by decide +kernel
theorem dX10_laySet_75 : decode cX10_laySet 75 = .ok (.iload_n 3, 1) := by decide +kernel
theorem dX10_laySet_76 : decode cX10_laySet 76 = .ok (.bipush 21, 2) := by decide +kernel
theorem dX10_laySet_78 : decode cX10_laySet 78 = .ok (.if_icmp .ge 159, 3) := by decide +kernel
theorem dX10_laySet_81 : decode cX10_laySet 81 = .ok (.bipush 21, 2) := by decide +kernel
theorem dX10_laySet_83 : decode cX10_laySet 83 = .ok (.iload_n 1, 1) := by decide +kernel
theorem dX10_laySet_84 : decode cX10_laySet 84 = .ok (.imul, 1) := by decide +kernel
theorem dX10_laySet_85 : decode cX10_laySet 85 = .ok (.iload_n 3, 1) := by decide +kernel
theorem dX10_laySet_86 : decode cX10_laySet 86 = .ok (.iadd, 1) := by decide +kernel
theorem dX10_laySet_87 : decode cX10_laySet 87 = .ok (.istore 4, 2) := by decide +kernel
theorem dX10_laySet_89 : decode cX10_laySet 89 = .ok (.aload_n 0, 1) := by decide +kernel
theorem dX10_laySet_90 : decode cX10_laySet 90 = .ok (.getfield 56, 3) := by decide +kernel
theorem dX10_laySet_93 : decode cX10_laySet 93 = .ok (.iload 4, 2) := by decide +kernel
theorem dX10_laySet_95 : decode cX10_laySet 95 = .ok (.aload_n 0, 1) := by decide +kernel
theorem dX10_laySet_96 : decode cX10_laySet 96 = .ok (.getfield 56, 3) := by decide +kernel
theorem dX10_laySet_99 : decode cX10_laySet 99 = .ok (.iload 4, 2) := by decide +kernel
theorem dX10_laySet_101 : decode cX10_laySet 101 = .ok (.bipush 21, 2) := by decide +kernel
theorem dX10_laySet_103 : decode cX10_laySet 103 = .ok (.iadd, 1) := by decide +kernel
theorem dX10_laySet_104 : decode cX10_laySet 104 = .ok (.iaload, 1) := by decide +kernel
theorem dX10_laySet_105 : decode cX10_laySet 105 = .ok (.iastore, 1) := by decide +kernel
theorem dX10_laySet_106 : decode cX10_laySet 106 = .ok (.aload_n 0, 1) := by decide +kernel
theorem dX10_laySet_107 : decode cX10_laySet 107 = .ok (.getfield 59, 3) := by decide +kernel
theorem dX10_laySet_110 : decode cX10_laySet 110 = .ok (.iload 4, 2) := by decide +kernel
theorem dX10_laySet_112 : decode cX10_laySet 112 = .ok (.aload_n 0, 1) := by decide +kernel
theorem dX10_laySet_113 : decode cX10_laySet 113 = .ok (.getfield 59, 3) := by decide +kernel
theorem dX10_laySet_116 : decode cX10_laySet 116 = .ok (.iload 4, 2) := by decide +kernel
theorem dX10_laySet_118 : decode cX10_laySet 118 = .ok (.bipush 21, 2) := by decide +kernel
theorem dX10_laySet_120 : decode cX10_laySet 120 = .ok (.iadd, 1) := by decide +kernel
theorem dX10_laySet_121 : decode cX10_laySet 121 = .ok (.iaload, 1) := by decide +kernel
theorem dX10_laySet_122 : decode cX10_laySet 122 = .ok (.iastore, 1) := by decide +kernel
theorem dX10_laySet_123 : decode cX10_laySet 123 = .ok (.iload_n 2, 1) := by decide +kernel
theorem dX10_laySet_124 : decode cX10_laySet 124 = .ok (.iconst (-1), 1) := by decide +kernel
theorem dX10_laySet_125 : decode cX10_laySet 125 = .ok (.if_icmp .eq 106, 3) := by decide +kernel
theorem dX10_laySet_128 : decode cX10_laySet 128 = .ok (.iload_n 3, 1) := by decide +kernel
theorem dX10_laySet_129 : decode cX10_laySet 129 = .ok (.ifCond .ne 6, 3) := by decide +kernel
theorem dX10_laySet_132 : decode cX10_laySet 132 = .ok (.goto 99, 3) := by decide +kernel
theorem dX10_laySet_135 : decode cX10_laySet 135 = .ok (.aload_n 0, 1) := by decide +kernel
theorem dX10_laySet_136 : decode cX10_laySet 136 = .ok (.getfield 43, 3) := by decide +kernel
theorem dX10_laySet_139 : decode cX10_laySet 139 = .ok (.iload_n 1, 1) := by decide +kernel
theorem dX10_laySet_140 : decode cX10_laySet 140 = .ok (.iaload, 1) := by decide +kernel
theorem dX10_laySet_141 : decode cX10_laySet 141 = .ok (.aload_n 0, 1) := by decide +kernel
theorem dX10_laySet_142 : decode cX10_laySet 142 = .ok (.getfield 56, 3) := by decide +kernel
theorem dX10_laySet_145 : decode cX10_laySet 145 = .ok (.bipush 21, 2) := by decide +kernel
theorem dX10_laySet_147 : decode cX10_laySet 147 = .ok (.iload_n 2, 1) := by decide +kernel
theorem dX10_laySet_148 : decode cX10_laySet 148 = .ok (.imul, 1) := by decide +kernel
theorem dX10_laySet_149 : decode cX10_laySet 149 = .ok (.iload_n 3, 1) := by decide +kernel
theorem dX10_laySet_150 : decode cX10_laySet 150 = .ok (.iadd, 1) := by decide +kernel
theorem dX10_laySet_151 : decode cX10_laySet 151 = .ok (.iconst 1, 1) := by decide +kernel
theorem dX10_laySet_152 : decode cX10_laySet 152 = .ok (.isub, 1) := by decide +kernel
theorem dX10_laySet_153 : decode cX10_laySet 153 = .ok (.iaload, 1) := by decide +kernel
theorem dX10_laySet_154 : decode cX10_laySet 154 = .ok (.iadd, 1) := by decide +kernel
theorem dX10_laySet_155 : decode cX10_laySet 155 = .ok (.istore 5, 2) := by decide +kernel
theorem dX10_laySet_157 : decode cX10_laySet 157 = .ok (.iconst 1, 1) := by decide +kernel
theorem dX10_laySet_158 : decode cX10_laySet 158 = .ok (.aload_n 0, 1) := by decide +kernel
theorem dX10_laySet_159 : decode cX10_laySet 159 = .ok (.getfield 59, 3) := by decide +kernel
theorem dX10_laySet_162 : decode cX10_laySet 162 = .ok (.bipush 21, 2) := by decide +kernel
theorem dX10_laySet_164 : decode cX10_laySet 164 = .ok (.iload_n 2, 1) := by decide +kernel
theorem dX10_laySet_165 : decode cX10_laySet 165 = .ok (.imul, 1) := by decide +kernel
theorem dX10_laySet_166 : decode cX10_laySet 166 = .ok (.iload_n 3, 1) := by decide +kernel
theorem dX10_laySet_167 : decode cX10_laySet 167 = .ok (.iadd, 1) := by decide +kernel
theorem dX10_laySet_168 : decode cX10_laySet 168 = .ok (.iconst 1, 1) := by decide +kernel
theorem dX10_laySet_169 : decode cX10_laySet 169 = .ok (.isub, 1) := by decide +kernel
theorem dX10_laySet_170 : decode cX10_laySet 170 = .ok (.iaload, 1) := by decide +kernel
theorem dX10_laySet_171 : decode cX10_laySet 171 = .ok (.iadd, 1) := by decide +kernel
theorem dX10_laySet_172 : decode cX10_laySet 172 = .ok (.istore 6, 2) := by decide +kernel
theorem dX10_laySet_174 : decode cX10_laySet 174 = .ok (.iload 5, 2) := by decide +kernel
theorem dX10_laySet_176 : decode cX10_laySet 176 = .ok (.aload_n 0, 1) := by decide +kernel
theorem dX10_laySet_177 : decode cX10_laySet 177 = .ok (.getfield 56, 3) := by decide +kernel
theorem dX10_laySet_180 : decode cX10_laySet 180 = .ok (.iload 4, 2) := by decide +kernel
theorem dX10_laySet_182 : decode cX10_laySet 182 = .ok (.iaload, 1) := by decide +kernel
theorem dX10_laySet_183 : decode cX10_laySet 183 = .ok (.if_icmp .lt 48, 3) := by decide +kernel
theorem dX10_laySet_186 : decode cX10_laySet 186 = .ok (.iload 5, 2) := by decide +kernel
theorem dX10_laySet_188 : decode cX10_laySet 188 = .ok (.aload_n 0, 1) := by decide +kernel
theorem dX10_laySet_189 : decode cX10_laySet 189 = .ok (.getfield 56, 3) := by decide +kernel
theorem dX10_laySet_192 : decode cX10_laySet 192 = .ok (.iload 4, 2) := by decide +kernel
theorem dX10_laySet_194 : decode cX10_laySet 194 = .ok (.iaload, 1) := by decide +kernel
theorem dX10_laySet_195 : decode cX10_laySet 195 = .ok (.if_icmp .ne 18, 3) := by decide +kernel
theorem dX10_laySet_198 : decode cX10_laySet 198 = .ok (.iload 6, 2) := by decide +kernel
theorem dX10_laySet_200 : decode cX10_laySet 200 = .ok (.aload_n 0, 1) := by decide +kernel
theorem dX10_laySet_201 : decode cX10_laySet 201 = .ok (.getfield 59, 3) := by decide +kernel
theorem dX10_laySet_204 : decode cX10_laySet 204 = .ok (.iload 4, 2) := by decide +kernel
theorem dX10_laySet_206 : decode cX10_laySet 206 = .ok (.iaload, 1) := by decide +kernel
theorem dX10_laySet_207 : decode cX10_laySet 207 = .ok (.if_icmp .le 6, 3) := by decide +kernel
theorem dX10_laySet_210 : decode cX10_laySet 210 = .ok (.goto 21, 3) := by decide +kernel
theorem dX10_laySet_213 : decode cX10_laySet 213 = .ok (.aload_n 0, 1) := by decide +kernel
theorem dX10_laySet_214 : decode cX10_laySet 214 = .ok (.getfield 56, 3) := by decide +kernel
theorem dX10_laySet_217 : decode cX10_laySet 217 = .ok (.iload 4, 2) := by decide +kernel
theorem dX10_laySet_219 : decode cX10_laySet 219 = .ok (.iload 5, 2) := by decide +kernel
theorem dX10_laySet_221 : decode cX10_laySet 221 = .ok (.iastore, 1) := by decide +kernel
theorem dX10_laySet_222 : decode cX10_laySet 222 = .ok (.aload_n 0, 1) := by decide +kernel
theorem dX10_laySet_223 : decode cX10_laySet 223 = .ok (.getfield 59, 3) := by decide +kernel
theorem dX10_laySet_226 : decode cX10_laySet 226 = .ok (.iload 4, 2) := by decide +kernel
theorem dX10_laySet_228 : decode cX10_laySet 228 = .ok (.iload 6, 2) := by decide +kernel
theorem dX10_laySet_230 : decode cX10_laySet 230 = .ok (.iastore, 1) := by decide +kernel
theorem dX10_laySet_231 : decode cX10_laySet 231 = .ok (.iinc 3 1, 3) := by decide +kernel
theorem dX10_laySet_234 : decode cX10_laySet 234 = .ok (.goto (-159), 3) := by decide +kernel
theorem dX10_laySet_237 : decode cX10_laySet 237 = .ok (.iinc 1 (-1), 3) := by decide +kernel
theorem dX10_laySet_240 : decode cX10_laySet 240 = .ok (.goto (-189), 3) := by decide +kernel
theorem dX10_laySet_243 : decode cX10_laySet 243 = .ok (.aload_n 0, 1) := by decide +kernel
theorem dX10_laySet_244 : decode cX10_laySet 244 = .ok (.aload_n 0, 1) := by decide +kernel
theorem dX10_laySet_245 : decode cX10_laySet 245 = .ok (.getfield 56, 3) := by decide +kernel
theorem dX10_laySet_248 : decode cX10_laySet 248 = .ok (.aload_n 0, 1) := by decide +kernel
theorem dX10_laySet_249 : decode cX10_laySet 249 = .ok (.getfield 7, 3) := by decide +kernel
theorem dX10_laySet_252 : decode cX10_laySet 252 = .ok (.bipush 6, 2) := by decide +kernel
theorem dX10_laySet_254 : decode cX10_laySet 254 = .ok (.iaload, 1) := by decide +kernel
theorem dX10_laySet_255 : decode cX10_laySet 255 = .ok (.iaload, 1) := by decide +kernel
theorem dX10_laySet_256 : decode cX10_laySet 256 = .ok (.putfield 208, 3) := by decide +kernel
theorem dX10_laySet_259 : decode cX10_laySet 259 = .ok (.aload_n 0, 1) := by decide +kernel
theorem dX10_laySet_260 : decode cX10_laySet 260 = .ok (.aload_n 0, 1) := by decide +kernel
theorem dX10_laySet_261 : decode cX10_laySet 261 = .ok (.getfield 59, 3) := by decide +kernel
theorem dX10_laySet_264 : decode cX10_laySet 264 = .ok (.aload_n 0, 1) := by decide +kernel
theorem dX10_laySet_265 : decode cX10_laySet 265 = .ok (.getfield 7, 3) := by decide +kernel
theorem dX10_laySet_268 : decode cX10_laySet 268 = .ok (.bipush 6, 2) := by decide +kernel
theorem dX10_laySet_270 : decode cX10_laySet 270 = .ok (.iaload, 1) := by decide +kernel
theorem dX10_laySet_271 : decode cX10_laySet 271 = .ok (.iaload, 1) := by decide +kernel
theorem dX10_laySet_272 : decode cX10_laySet 272 = .ok (.putfield 211, 3) := by decide +kernel
theorem dX10_laySet_275 : decode cX10_laySet 275 = .ok (.aload_n 0, 1) := by decide +kernel
theorem dX10_laySet_276 : decode cX10_laySet 276 = .ok (.invokevirtual 214, 3) := by decide +kernel
theorem dX10_laySet_279 : decode cX10_laySet 279 = .ok (.return_, 1) := by decide +kernel
theorem dX10_markSet_0 : decode cX10_markSet 0 = .ok (.iconst 0, 1) := by decide +kernel
theorem dX10_markSet_1 : decode cX10_markSet 1 = .ok (.istore_n 1, 1) := by decide +kernel
theorem dX10_markSet_2 : decode cX10_markSet 2 = .ok (.iload_n 1, 1) := by decide +kernel
theorem dX10_markSet_3 : decode cX10_markSet 3 = .ok (.aload_n 0, 1) := by decide +kernel
theorem dX10_markSet_4 : decode cX10_markSet 4 = .ok (.getfield 175, 3) := by decide +kernel
theorem dX10_markSet_7 : decode cX10_markSet 7 = .ok (.if_icmp .ge 16, 3) := by decide +kernel
theorem dX10_markSet_10 : decode cX10_markSet 10 = .ok (.aload_n 0, 1) := by decide +kernel
theorem dX10_markSet_11 : decode cX10_markSet 11 = .ok (.getfield 53, 3) := by decide +kernel
theorem dX10_markSet_14 : decode cX10_markSet 14 = .ok (.iload_n 1, 1) := by decide +kernel
theorem dX10_markSet_15 : decode cX10_markSet 15 = .ok (.iconst 0, 1) := by decide +kernel
theorem dX10_markSet_16 : decode cX10_markSet 16 = .ok (.bastore, 1) := by decide +kernel
theorem dX10_markSet_17 : decode cX10_markSet 17 = .ok (.iinc 1 1, 3) := by decide +kernel
theorem dX10_markSet_20 : decode cX10_markSet 20 = .ok (.goto (-18), 3) := by decide +kernel
theorem dX10_markSet_23 : decode cX10_markSet 23 = .ok (.iconst 0, 1) := by decide +kernel
theorem dX10_markSet_24 : decode cX10_markSet 24 = .ok (.istore_n 1, 1) := by decide +kernel
theorem dX10_markSet_25 : decode cX10_markSet 25 = .ok (.aload_n 0, 1) := by decide +kernel
theorem dX10_markSet_26 : decode cX10_markSet 26 = .ok (.getfield 7, 3) := by decide +kernel
theorem dX10_markSet_29 : decode cX10_markSet 29 = .ok (.bipush 6, 2) := by decide +kernel
theorem dX10_markSet_31 : decode cX10_markSet 31 = .ok (.iaload, 1) := by decide +kernel
theorem dX10_markSet_32 : decode cX10_markSet 32 = .ok (.istore_n 2, 1) := by decide +kernel
theorem dX10_markSet_33 : decode cX10_markSet 33 = .ok (.iload_n 1, 1) := by decide +kernel
theorem dX10_markSet_34 : decode cX10_markSet 34 = .ok (.aload_n 0, 1) := by decide +kernel
theorem dX10_markSet_35 : decode cX10_markSet 35 = .ok (.getfield 175, 3) := by decide +kernel
theorem dX10_markSet_38 : decode cX10_markSet 38 = .ok (.if_icmp .ge 151, 3) := by decide +kernel
theorem dX10_markSet_41 : decode cX10_markSet 41 = .ok (.aload_n 0, 1) := by decide +kernel
theorem dX10_markSet_42 : decode cX10_markSet 42 = .ok (.getfield 59, 3) := by decide +kernel
theorem dX10_markSet_45 : decode cX10_markSet 45 = .ok (.bipush 21, 2) := by decide +kernel
theorem dX10_markSet_47 : decode cX10_markSet 47 = .ok (.iload_n 1, 1) := by decide +kernel
theorem dX10_markSet_48 : decode cX10_markSet 48 = .ok (.imul, 1) := by decide +kernel
theorem dX10_markSet_49 : decode cX10_markSet 49 = .ok (.iload_n 2, 1) := by decide +kernel
theorem dX10_markSet_50 : decode cX10_markSet 50 = .ok (.iadd, 1) := by decide +kernel
theorem dX10_markSet_51 : decode cX10_markSet 51 = .ok (.iaload, 1) := by decide +kernel
theorem dX10_markSet_52 : decode cX10_markSet 52 = .ok (.ifCond .le 137, 3) := by decide +kernel
theorem dX10_markSet_55 : decode cX10_markSet 55 = .ok (.aload_n 0, 1) := by decide +kernel
theorem dX10_markSet_56 : decode cX10_markSet 56 = .ok (.iload_n 1, 1) := by decide +kernel
theorem dX10_markSet_57 : decode cX10_markSet 57 = .ok (.invokevirtual 202, 3) := by decide +kernel
theorem dX10_markSet_60 : decode cX10_markSet 60 = .ok (.ifCond .eq 15, 3) := by decide +kernel
theorem dX10_markSet_63 : decode cX10_markSet 63 = .ok (.iload_n 2, 1) := by decide +kernel
theorem dX10_markSet_64 : decode cX10_markSet 64 = .ok (.ifCond .le 11, 3) := by decide +kernel
theorem dX10_markSet_67 : decode cX10_markSet 67 = .ok (.aload_n 0, 1) := by decide +kernel
theorem dX10_markSet_68 : decode cX10_markSet 68 = .ok (.iload_n 1, 1) := by decide +kernel
theorem dX10_markSet_69 : decode cX10_markSet 69 = .ok (.invokevirtual 205, 3) := by decide +kernel
theorem dX10_markSet_72 : decode cX10_markSet 72 = .ok (.goto 4, 3) := by decide +kernel
theorem dX10_markSet_75 : decode cX10_markSet 75 = .ok (.iconst (-1), 1) := by decide +kernel
theorem dX10_markSet_76 : decode cX10_markSet 76 = .ok (.istore_n 3, 1) := by decide +kernel
theorem dX10_markSet_77 : decode cX10_markSet 77 = .ok (.iload_n 3, 1) := by decide +kernel
theorem dX10_markSet_78 : decode cX10_markSet 78 = .ok (.iconst (-1), 1) := by decide +kernel
theorem dX10_markSet_79 : decode cX10_markSet 79 = .ok (.if_icmp .eq 70, 3) := by decide +kernel
theorem dX10_markSet_82 : decode cX10_markSet 82 = .ok (.aload_n 0, 1) := by decide +kernel
theorem dX10_markSet_83 : decode cX10_markSet 83 = .ok (.getfield 43, 3) := by decide +kernel
theorem dX10_markSet_86 : decode cX10_markSet 86 = .ok (.iload_n 1, 1) := by decide +kernel
theorem dX10_markSet_87 : decode cX10_markSet 87 = .ok (.iaload, 1) := by decide +kernel
theorem dX10_markSet_88 : decode cX10_markSet 88 = .ok (.aload_n 0, 1) := by decide +kernel
theorem dX10_markSet_89 : decode cX10_markSet 89 = .ok (.getfield 56, 3) := by decide +kernel
theorem dX10_markSet_92 : decode cX10_markSet 92 = .ok (.bipush 21, 2) := by decide +kernel
theorem dX10_markSet_94 : decode cX10_markSet 94 = .ok (.iload_n 3, 1) := by decide +kernel
theorem dX10_markSet_95 : decode cX10_markSet 95 = .ok (.imul, 1) := by decide +kernel
theorem dX10_markSet_96 : decode cX10_markSet 96 = .ok (.iload_n 2, 1) := by decide +kernel
theorem dX10_markSet_97 : decode cX10_markSet 97 = .ok (.iadd, 1) := by decide +kernel
theorem dX10_markSet_98 : decode cX10_markSet 98 = .ok (.iconst 1, 1) := by decide +kernel
theorem dX10_markSet_99 : decode cX10_markSet 99 = .ok (.isub, 1) := by decide +kernel
theorem dX10_markSet_100 : decode cX10_markSet 100 = .ok (.iaload, 1) := by decide +kernel
theorem dX10_markSet_101 : decode cX10_markSet 101 = .ok (.iadd, 1) := by decide +kernel
theorem dX10_markSet_102 : decode cX10_markSet 102 = .ok (.aload_n 0, 1) := by decide +kernel
theorem dX10_markSet_103 : decode cX10_markSet 103 = .ok (.getfield 56, 3) := by decide +kernel
theorem dX10_markSet_106 : decode cX10_markSet 106 = .ok (.bipush 21, 2) := by decide +kernel
theorem dX10_markSet_108 : decode cX10_markSet 108 = .ok (.iload_n 1, 1) := by decide +kernel
theorem dX10_markSet_109 : decode cX10_markSet 109 = .ok (.imul, 1) := by decide +kernel
theorem dX10_markSet_110 : decode cX10_markSet 110 = .ok (.iload_n 2, 1) := by decide +kernel
theorem dX10_markSet_111 : decode cX10_markSet 111 = .ok (.iadd, 1) := by decide +kernel
theorem dX10_markSet_112 : decode cX10_markSet 112 = .ok (.iaload, 1) := by decide +kernel
theorem dX10_markSet_113 : decode cX10_markSet 113 = .ok (.if_icmp .ne 36, 3) := by decide +kernel
theorem dX10_markSet_116 : decode cX10_markSet 116 = .ok (.iconst 1, 1) := by decide +kernel
theorem dX10_markSet_117 : decode cX10_markSet 117 = .ok (.aload_n 0, 1) := by decide +kernel
theorem dX10_markSet_118 : decode cX10_markSet 118 = .ok (.getfield 59, 3) := by decide +kernel
theorem dX10_markSet_121 : decode cX10_markSet 121 = .ok (.bipush 21, 2) := by decide +kernel
theorem dX10_markSet_123 : decode cX10_markSet 123 = .ok (.iload_n 3, 1) := by decide +kernel
theorem dX10_markSet_124 : decode cX10_markSet 124 = .ok (.imul, 1) := by decide +kernel
theorem dX10_markSet_125 : decode cX10_markSet 125 = .ok (.iload_n 2, 1) := by decide +kernel
theorem dX10_markSet_126 : decode cX10_markSet 126 = .ok (.iadd, 1) := by decide +kernel
theorem dX10_markSet_127 : decode cX10_markSet 127 = .ok (.iconst 1, 1) := by decide +kernel
theorem dX10_markSet_128 : decode cX10_markSet 128 = .ok (.isub, 1) := by decide +kernel
theorem dX10_markSet_129 : decode cX10_markSet 129 = .ok (.iaload, 1) := by decide +kernel
theorem dX10_markSet_130 : decode cX10_markSet 130 = .ok (.iadd, 1) := by decide +kernel
theorem dX10_markSet_131 : decode cX10_markSet 131 = .ok (.aload_n 0, 1) := by decide +kernel
theorem dX10_markSet_132 : decode cX10_markSet 132 = .ok (.getfield 59, 3) := by decide +kernel
theorem dX10_markSet_135 : decode cX10_markSet 135 = .ok (.bipush 21, 2) := by decide +kernel
theorem dX10_markSet_137 : decode cX10_markSet 137 = .ok (.iload_n 1, 1) := by decide +kernel
theorem dX10_markSet_138 : decode cX10_markSet 138 = .ok (.imul, 1) := by decide +kernel
theorem dX10_markSet_139 : decode cX10_markSet 139 = .ok (.iload_n 2, 1) := by decide +kernel
theorem dX10_markSet_140 : decode cX10_markSet 140 = .ok (.iadd, 1) := by decide +kernel
theorem dX10_markSet_141 : decode cX10_markSet 141 = .ok (.iaload, 1) := by decide +kernel
theorem dX10_markSet_142 : decode cX10_markSet 142 = .ok (.if_icmp .ne 7, 3) := by decide +kernel
theorem dX10_markSet_145 : decode cX10_markSet 145 = .ok (.iconst 1, 1) := by decide +kernel
theorem dX10_markSet_146 : decode cX10_markSet 146 = .ok (.goto 4, 3) := by decide +kernel
theorem dX10_markSet_149 : decode cX10_markSet 149 = .ok (.iconst 0, 1) := by decide +kernel
theorem dX10_markSet_150 : decode cX10_markSet 150 = .ok (.istore 4, 2) := by decide +kernel
theorem dX10_markSet_152 : decode cX10_markSet 152 = .ok (.aload_n 0, 1) := by decide +kernel
theorem dX10_markSet_153 : decode cX10_markSet 153 = .ok (.getfield 53, 3) := by decide +kernel
theorem dX10_markSet_156 : decode cX10_markSet 156 = .ok (.iload_n 1, 1) := by decide +kernel
theorem dX10_markSet_157 : decode cX10_markSet 157 = .ok (.iload 4, 2) := by decide +kernel
theorem dX10_markSet_159 : decode cX10_markSet 159 = .ok (.bastore, 1) := by decide +kernel
theorem dX10_markSet_160 : decode cX10_markSet 160 = .ok (.iload_n 2, 1) := by decide +kernel
theorem dX10_markSet_161 : decode cX10_markSet 161 = .ok (.iload 4, 2) := by decide +kernel
theorem dX10_markSet_163 : decode cX10_markSet 163 = .ok (.ifCond .eq 7, 3) := by decide +kernel
theorem dX10_markSet_166 : decode cX10_markSet 166 = .ok (.iconst 1, 1) := by decide +kernel
theorem dX10_markSet_167 : decode cX10_markSet 167 = .ok (.goto 4, 3) := by decide +kernel
theorem dX10_markSet_170 : decode cX10_markSet 170 = .ok (.iconst 0, 1) := by decide +kernel
theorem dX10_markSet_171 : decode cX10_markSet 171 = .ok (.isub, 1) := by decide +kernel
theorem dX10_markSet_172 : decode cX10_markSet 172 = .ok (.istore_n 2, 1) := by decide +kernel
theorem dX10_markSet_173 : decode cX10_markSet 173 = .ok (.iload 4, 2) := by decide +kernel
theorem dX10_markSet_175 : decode cX10_markSet 175 = .ok (.ifCond .eq 7, 3) := by decide +kernel
theorem dX10_markSet_178 : decode cX10_markSet 178 = .ok (.iload_n 3, 1) := by decide +kernel
theorem dX10_markSet_179 : decode cX10_markSet 179 = .ok (.goto 6, 3) := by decide +kernel
theorem dX10_markSet_182 : decode cX10_markSet 182 = .ok (.iload_n 1, 1) := by decide +kernel
theorem dX10_markSet_183 : decode cX10_markSet 183 = .ok (.iconst 1, 1) := by decide +kernel
theorem dX10_markSet_184 : decode cX10_markSet 184 = .ok (.iadd, 1) := by decide +kernel
theorem dX10_markSet_185 : decode cX10_markSet 185 = .ok (.istore_n 1, 1) := by decide +kernel
theorem dX10_markSet_186 : decode cX10_markSet 186 = .ok (.goto (-153), 3) := by decide +kernel
theorem dX10_markSet_189 : decode cX10_markSet 189 = .ok (.return_, 1) := by decide +kernel
theorem dX10_longThen_0 : decode cX10_longThen 0 = .ok (.aload_n 0, 1) := by decide +kernel
theorem dX10_longThen_1 : decode cX10_longThen 1 = .ok (.getfield 7, 3) := by decide +kernel
theorem dX10_longThen_4 : decode cX10_longThen 4 = .ok (.iconst 2, 1) := by decide +kernel
theorem dX10_longThen_5 : decode cX10_longThen 5 = .ok (.iaload, 1) := by decide +kernel
theorem dX10_longThen_6 : decode cX10_longThen 6 = .ok (.istore_n 2, 1) := by decide +kernel
theorem dX10_longThen_7 : decode cX10_longThen 7 = .ok (.iconst 0, 1) := by decide +kernel
theorem dX10_longThen_8 : decode cX10_longThen 8 = .ok (.istore_n 3, 1) := by decide +kernel
theorem dX10_longThen_9 : decode cX10_longThen 9 = .ok (.iload_n 3, 1) := by decide +kernel
theorem dX10_longThen_10 : decode cX10_longThen 10 = .ok (.aload_n 0, 1) := by decide +kernel
theorem dX10_longThen_11 : decode cX10_longThen 11 = .ok (.getfield 175, 3) := by decide +kernel
theorem dX10_longThen_14 : decode cX10_longThen 14 = .ok (.if_icmp .ge 54, 3) := by decide +kernel
theorem dX10_longThen_17 : decode cX10_longThen 17 = .ok (.iload_n 1, 1) := by decide +kernel
theorem dX10_longThen_18 : decode cX10_longThen 18 = .ok (.iconst (-1), 1) := by decide +kernel
theorem dX10_longThen_19 : decode cX10_longThen 19 = .ok (.if_icmp .ne 15, 3) := by decide +kernel
theorem dX10_longThen_22 : decode cX10_longThen 22 = .ok (.aload_n 0, 1) := by decide +kernel
theorem dX10_longThen_23 : decode cX10_longThen 23 = .ok (.getfield 53, 3) := by decide +kernel
theorem dX10_longThen_26 : decode cX10_longThen 26 = .ok (.iload_n 3, 1) := by decide +kernel
theorem dX10_longThen_27 : decode cX10_longThen 27 = .ok (.baload, 1) := by decide +kernel
theorem dX10_longThen_28 : decode cX10_longThen 28 = .ok (.ifCond .eq 34, 3) := by decide +kernel
theorem dX10_longThen_31 : decode cX10_longThen 31 = .ok (.goto 8, 3) := by decide +kernel
theorem dX10_longThen_34 : decode cX10_longThen 34 = .ok (.iload_n 3, 1) := by decide +kernel
theorem dX10_longThen_35 : decode cX10_longThen 35 = .ok (.iload_n 1, 1) := by decide +kernel
theorem dX10_longThen_36 : decode cX10_longThen 36 = .ok (.if_icmp .ne 26, 3) := by decide +kernel
theorem dX10_longThen_39 : decode cX10_longThen 39 = .ok (.iload_n 2, 1) := by decide +kernel
theorem dX10_longThen_40 : decode cX10_longThen 40 = .ok (.aload_n 0, 1) := by decide +kernel
theorem dX10_longThen_41 : decode cX10_longThen 41 = .ok (.getfield 40, 3) := by decide +kernel
theorem dX10_longThen_44 : decode cX10_longThen 44 = .ok (.iload_n 3, 1) := by decide +kernel
theorem dX10_longThen_45 : decode cX10_longThen 45 = .ok (.iaload, 1) := by decide +kernel
theorem dX10_longThen_46 : decode cX10_longThen 46 = .ok (.aload_n 0, 1) := by decide +kernel
theorem dX10_longThen_47 : decode cX10_longThen 47 = .ok (.getfield 34, 3) := by decide +kernel
theorem dX10_longThen_50 : decode cX10_longThen 50 = .ok (.iload_n 3, 1) := by decide +kernel
theorem dX10_longThen_51 : decode cX10_longThen 51 = .ok (.iaload, 1) := by decide +kernel
theorem dX10_longThen_52 : decode cX10_longThen 52 = .ok (.aload_n 0, 1) := by decide +kernel
theorem dX10_longThen_53 : decode cX10_longThen 53 = .ok (.getfield 31, 3) := by decide +kernel
theorem dX10_longThen_56 : decode cX10_longThen 56 = .ok (.iload_n 3, 1) := by decide +kernel
theorem dX10_longThen_57 : decode cX10_longThen 57 = .ok (.iaload, 1) := by decide +kernel
theorem dX10_longThen_58 : decode cX10_longThen 58 = .ok (.isub, 1) := by decide +kernel
theorem dX10_longThen_59 : decode cX10_longThen 59 = .ok (.isub, 1) := by decide +kernel
theorem dX10_longThen_60 : decode cX10_longThen 60 = .ok (.iadd, 1) := by decide +kernel
theorem dX10_longThen_61 : decode cX10_longThen 61 = .ok (.istore_n 2, 1) := by decide +kernel
theorem dX10_longThen_62 : decode cX10_longThen 62 = .ok (.iinc 3 1, 3) := by decide +kernel
theorem dX10_longThen_65 : decode cX10_longThen 65 = .ok (.goto (-56), 3) := by decide +kernel
theorem dX10_longThen_68 : decode cX10_longThen 68 = .ok (.iload_n 2, 1) := by decide +kernel
theorem dX10_longThen_69 : decode cX10_longThen 69 = .ok (.ireturn, 1) := by decide +kernel
theorem dX10_writeNew_0 : decode cX10_writeNew 0 = .ok (.aload_n 0, 1) := by decide +kernel
theorem dX10_writeNew_1 : decode cX10_writeNew 1 = .ok (.getfield 62, 3) := by decide +kernel
theorem dX10_writeNew_4 : decode cX10_writeNew 4 = .ok (.aload_n 0, 1) := by decide +kernel
theorem dX10_writeNew_5 : decode cX10_writeNew 5 = .ok (.getfield 217, 3) := by decide +kernel
theorem dX10_writeNew_8 : decode cX10_writeNew 8 = .ok (.iload_n 1, 1) := by decide +kernel
theorem dX10_writeNew_9 : decode cX10_writeNew 9 = .ok (.iastore, 1) := by decide +kernel
theorem dX10_writeNew_10 : decode cX10_writeNew 10 = .ok (.aload_n 0, 1) := by decide +kernel
theorem dX10_writeNew_11 : decode cX10_writeNew 11 = .ok (.getfield 65, 3) := by decide +kernel
theorem dX10_writeNew_14 : decode cX10_writeNew 14 = .ok (.aload_n 0, 1) := by decide +kernel
theorem dX10_writeNew_15 : decode cX10_writeNew 15 = .ok (.getfield 217, 3) := by decide +kernel
theorem dX10_writeNew_18 : decode cX10_writeNew 18 = .ok (.iload_n 2, 1) := by decide +kernel
theorem dX10_writeNew_19 : decode cX10_writeNew 19 = .ok (.iastore, 1) := by decide +kernel
theorem dX10_writeNew_20 : decode cX10_writeNew 20 = .ok (.aload_n 0, 1) := by decide +kernel
theorem dX10_writeNew_21 : decode cX10_writeNew 21 = .ok (.dup, 1) := by decide +kernel
theorem dX10_writeNew_22 : decode cX10_writeNew 22 = .ok (.getfield 217, 3) := by decide +kernel
theorem dX10_writeNew_25 : decode cX10_writeNew 25 = .ok (.iconst 1, 1) := by decide +kernel
theorem dX10_writeNew_26 : decode cX10_writeNew 26 = .ok (.iadd, 1) := by decide +kernel
theorem dX10_writeNew_27 : decode cX10_writeNew 27 = .ok (.putfield 217, 3) := by decide +kernel
theorem dX10_writeNew_30 : decode cX10_writeNew 30 = .ok (.return_, 1) := by decide +kernel
theorem dX10_along_0 : decode cX10_along 0 = .ok (.iload_n 1, 1) := by decide +kernel
theorem dX10_along_1 : decode cX10_along 1 = .ok (.istore_n 3, 1) := by decide +kernel
theorem dX10_along_2 : decode cX10_along 2 = .ok (.iconst 0, 1) := by decide +kernel
theorem dX10_along_3 : decode cX10_along 3 = .ok (.istore 4, 2) := by decide +kernel
theorem dX10_along_5 : decode cX10_along 5 = .ok (.iload 4, 2) := by decide +kernel
theorem dX10_along_7 : decode cX10_along 7 = .ok (.aload_n 0, 1) := by decide +kernel
theorem dX10_along_8 : decode cX10_along 8 = .ok (.getfield 175, 3) := by decide +kernel
theorem dX10_along_11 : decode cX10_along 11 = .ok (.if_icmp .ge 70, 3) := by decide +kernel
theorem dX10_along_14 : decode cX10_along 14 = .ok (.iload_n 2, 1) := by decide +kernel
theorem dX10_along_15 : decode cX10_along 15 = .ok (.iconst (-1), 1) := by decide +kernel
theorem dX10_along_16 : decode cX10_along 16 = .ok (.if_icmp .ne 16, 3) := by decide +kernel
theorem dX10_along_19 : decode cX10_along 19 = .ok (.aload_n 0, 1) := by decide +kernel
theorem dX10_along_20 : decode cX10_along 20 = .ok (.getfield 53, 3) := by decide +kernel
theorem dX10_along_23 : decode cX10_along 23 = .ok (.iload 4, 2) := by decide +kernel
theorem dX10_along_25 : decode cX10_along 25 = .ok (.baload, 1) := by decide +kernel
theorem dX10_along_26 : decode cX10_along 26 = .ok (.ifCond .eq 49, 3) := by decide +kernel
theorem dX10_along_29 : decode cX10_along 29 = .ok (.goto 9, 3) := by decide +kernel
theorem dX10_along_32 : decode cX10_along 32 = .ok (.iload 4, 2) := by decide +kernel
theorem dX10_along_34 : decode cX10_along 34 = .ok (.iload_n 2, 1) := by decide +kernel
theorem dX10_along_35 : decode cX10_along 35 = .ok (.if_icmp .ne 40, 3) := by decide +kernel
theorem dX10_along_38 : decode cX10_along 38 = .ok (.aload_n 0, 1) := by decide +kernel
theorem dX10_along_39 : decode cX10_along 39 = .ok (.getfield 34, 3) := by decide +kernel
theorem dX10_along_42 : decode cX10_along 42 = .ok (.iload 4, 2) := by decide +kernel
theorem dX10_along_44 : decode cX10_along 44 = .ok (.iaload, 1) := by decide +kernel
theorem dX10_along_45 : decode cX10_along 45 = .ok (.iload_n 1, 1) := by decide +kernel
theorem dX10_along_46 : decode cX10_along 46 = .ok (.if_icmp .gt 29, 3) := by decide +kernel
theorem dX10_along_49 : decode cX10_along 49 = .ok (.iload_n 3, 1) := by decide +kernel
theorem dX10_along_50 : decode cX10_along 50 = .ok (.aload_n 0, 1) := by decide +kernel
theorem dX10_along_51 : decode cX10_along 51 = .ok (.getfield 40, 3) := by decide +kernel
theorem dX10_along_54 : decode cX10_along 54 = .ok (.iload 4, 2) := by decide +kernel
theorem dX10_along_56 : decode cX10_along 56 = .ok (.iaload, 1) := by decide +kernel
theorem dX10_along_57 : decode cX10_along 57 = .ok (.aload_n 0, 1) := by decide +kernel
theorem dX10_along_58 : decode cX10_along 58 = .ok (.getfield 34, 3) := by decide +kernel
theorem dX10_along_61 : decode cX10_along 61 = .ok (.iload 4, 2) := by decide +kernel
theorem dX10_along_63 : decode cX10_along 63 = .ok (.iaload, 1) := by decide +kernel
theorem dX10_along_64 : decode cX10_along 64 = .ok (.aload_n 0, 1) := by decide +kernel
theorem dX10_along_65 : decode cX10_along 65 = .ok (.getfield 31, 3) := by decide +kernel
theorem dX10_along_68 : decode cX10_along 68 = .ok (.iload 4, 2) := by decide +kernel
theorem dX10_along_70 : decode cX10_along 70 = .ok (.iaload, 1) := by decide +kernel
theorem dX10_along_71 : decode cX10_along 71 = .ok (.isub, 1) := by decide +kernel
theorem dX10_along_72 : decode cX10_along 72 = .ok (.isub, 1) := by decide +kernel
theorem dX10_along_73 : decode cX10_along 73 = .ok (.iadd, 1) := by decide +kernel
theorem dX10_along_74 : decode cX10_along 74 = .ok (.istore_n 3, 1) := by decide +kernel
theorem dX10_along_75 : decode cX10_along 75 = .ok (.iinc 4 1, 3) := by decide +kernel
theorem dX10_along_78 : decode cX10_along 78 = .ok (.goto (-73), 3) := by decide +kernel
theorem dX10_along_81 : decode cX10_along 81 = .ok (.iload_n 3, 1) := by decide +kernel
theorem dX10_along_82 : decode cX10_along 82 = .ok (.ireturn, 1) := by decide +kernel
theorem dX10_makeNow_0 : decode cX10_makeNow 0 = .ok (.aload_n 0, 1) := by decide +kernel
theorem dX10_makeNow_1 : decode cX10_makeNow 1 = .ok (.iconst 0, 1) := by decide +kernel
theorem dX10_makeNow_2 : decode cX10_makeNow 2 = .ok (.putfield 217, 3) := by decide +kernel
theorem dX10_makeNow_5 : decode cX10_makeNow 5 = .ok (.iconst 0, 1) := by decide +kernel
theorem dX10_makeNow_6 : decode cX10_makeNow 6 = .ok (.istore_n 2, 1) := by decide +kernel
theorem dX10_makeNow_7 : decode cX10_makeNow 7 = .ok (.iconst 0, 1) := by decide +kernel
theorem dX10_makeNow_8 : decode cX10_makeNow 8 = .ok (.istore_n 3, 1) := by decide +kernel
theorem dX10_makeNow_9 : decode cX10_makeNow 9 = .ok (.iload_n 3, 1) := by decide +kernel
theorem dX10_makeNow_10 : decode cX10_makeNow 10 = .ok (.aload_n 0, 1) := by decide +kernel
theorem dX10_makeNow_11 : decode cX10_makeNow 11 = .ok (.getfield 175, 3) := by decide +kernel
theorem dX10_makeNow_14 : decode cX10_makeNow 14 = .ok (.if_icmp .ge 129, 3) := by decide +kernel
theorem dX10_makeNow_17 : decode cX10_makeNow 17 = .ok (.iload_n 1, 1) := by decide +kernel
theorem dX10_makeNow_18 : decode cX10_makeNow 18 = .ok (.iconst (-1), 1) := by decide +kernel
theorem dX10_makeNow_19 : decode cX10_makeNow 19 = .ok (.if_icmp .ne 15, 3) := by decide +kernel
theorem dX10_makeNow_22 : decode cX10_makeNow 22 = .ok (.aload_n 0, 1) := by decide +kernel
theorem dX10_makeNow_23 : decode cX10_makeNow 23 = .ok (.getfield 53, 3) := by decide +kernel
theorem dX10_makeNow_26 : decode cX10_makeNow 26 = .ok (.iload_n 3, 1) := by decide +kernel
theorem dX10_makeNow_27 : decode cX10_makeNow 27 = .ok (.baload, 1) := by decide +kernel
theorem dX10_makeNow_28 : decode cX10_makeNow 28 = .ok (.ifCond .ne 14, 3) := by decide +kernel
theorem dX10_makeNow_31 : decode cX10_makeNow 31 = .ok (.goto 106, 3) := by decide +kernel
theorem dX10_makeNow_34 : decode cX10_makeNow 34 = .ok (.iload_n 3, 1) := by decide +kernel
theorem dX10_makeNow_35 : decode cX10_makeNow 35 = .ok (.iload_n 1, 1) := by decide +kernel
theorem dX10_makeNow_36 : decode cX10_makeNow 36 = .ok (.if_icmp .eq 6, 3) := by decide +kernel
theorem dX10_makeNow_39 : decode cX10_makeNow 39 = .ok (.goto 98, 3) := by decide +kernel
theorem dX10_makeNow_42 : decode cX10_makeNow 42 = .ok (.iload_n 2, 1) := by decide +kernel
theorem dX10_makeNow_43 : decode cX10_makeNow 43 = .ok (.aload_n 0, 1) := by decide +kernel
theorem dX10_makeNow_44 : decode cX10_makeNow 44 = .ok (.getfield 31, 3) := by decide +kernel
theorem dX10_makeNow_47 : decode cX10_makeNow 47 = .ok (.iload_n 3, 1) := by decide +kernel
theorem dX10_makeNow_48 : decode cX10_makeNow 48 = .ok (.iaload, 1) := by decide +kernel
theorem dX10_makeNow_49 : decode cX10_makeNow 49 = .ok (.if_icmp .ge 28, 3) := by decide +kernel
theorem dX10_makeNow_52 : decode cX10_makeNow 52 = .ok (.aload_n 0, 1) := by decide +kernel
theorem dX10_makeNow_53 : decode cX10_makeNow 53 = .ok (.aload_n 0, 1) := by decide +kernel
theorem dX10_makeNow_54 : decode cX10_makeNow 54 = .ok (.iload_n 2, 1) := by decide +kernel
theorem dX10_makeNow_55 : decode cX10_makeNow 55 = .ok (.invokevirtual 120, 3) := by decide +kernel
theorem dX10_makeNow_58 : decode cX10_makeNow 58 = .ok (.aload_n 0, 1) := by decide +kernel
theorem dX10_makeNow_59 : decode cX10_makeNow 59 = .ok (.getfield 7, 3) := by decide +kernel
theorem dX10_makeNow_62 : decode cX10_makeNow 62 = .ok (.sipush 210, 3) := by decide +kernel
theorem dX10_makeNow_65 : decode cX10_makeNow 65 = .ok (.iload_n 2, 1) := by decide +kernel
theorem dX10_makeNow_66 : decode cX10_makeNow 66 = .ok (.iadd, 1) := by decide +kernel
theorem dX10_makeNow_67 : decode cX10_makeNow 67 = .ok (.iaload, 1) := by decide +kernel
theorem dX10_makeNow_68 : decode cX10_makeNow 68 = .ok (.invokevirtual 220, 3) := by decide +kernel
theorem dX10_makeNow_71 : decode cX10_makeNow 71 = .ok (.iinc 2 1, 3) := by decide +kernel
theorem dX10_makeNow_74 : decode cX10_makeNow 74 = .ok (.goto (-32), 3) := by decide +kernel
theorem dX10_makeNow_77 : decode cX10_makeNow 77 = .ok (.aload_n 0, 1) := by decide +kernel
theorem dX10_makeNow_78 : decode cX10_makeNow 78 = .ok (.aload_n 0, 1) := by decide +kernel
theorem dX10_makeNow_79 : decode cX10_makeNow 79 = .ok (.getfield 28, 3) := by decide +kernel
theorem dX10_makeNow_82 : decode cX10_makeNow 82 = .ok (.iload_n 3, 1) := by decide +kernel
theorem dX10_makeNow_83 : decode cX10_makeNow 83 = .ok (.iaload, 1) := by decide +kernel
theorem dX10_makeNow_84 : decode cX10_makeNow 84 = .ok (.aload_n 0, 1) := by decide +kernel
theorem dX10_makeNow_85 : decode cX10_makeNow 85 = .ok (.getfield 37, 3) := by decide +kernel
theorem dX10_makeNow_88 : decode cX10_makeNow 88 = .ok (.iload_n 3, 1) := by decide +kernel
theorem dX10_makeNow_89 : decode cX10_makeNow 89 = .ok (.iaload, 1) := by decide +kernel
theorem dX10_makeNow_90 : decode cX10_makeNow 90 = .ok (.invokevirtual 169, 3) := by decide +kernel
theorem dX10_makeNow_93 : decode cX10_makeNow 93 = .ok (.iconst 0, 1) := by decide +kernel
theorem dX10_makeNow_94 : decode cX10_makeNow 94 = .ok (.istore 4, 2) := by decide +kernel
theorem dX10_makeNow_96 : decode cX10_makeNow 96 = .ok (.iload 4, 2) := by decide +kernel
theorem dX10_makeNow_98 : decode cX10_makeNow 98 = .ok (.aload_n 0, 1) := by decide +kernel
theorem dX10_makeNow_99 : decode cX10_makeNow 99 = .ok (.getfield 148, 3) := by decide +kernel
theorem dX10_makeNow_102 : decode cX10_makeNow 102 = .ok (.if_icmp .ge 28, 3) := by decide +kernel
theorem dX10_makeNow_105 : decode cX10_makeNow 105 = .ok (.aload_n 0, 1) := by decide +kernel
theorem dX10_makeNow_106 : decode cX10_makeNow 106 = .ok (.aload_n 0, 1) := by decide +kernel
theorem dX10_makeNow_107 : decode cX10_makeNow 107 = .ok (.getfield 25, 3) := by decide +kernel
theorem dX10_makeNow_110 : decode cX10_makeNow 110 = .ok (.iload 4, 2) := by decide +kernel
theorem dX10_makeNow_112 : decode cX10_makeNow 112 = .ok (.iaload, 1) := by decide +kernel
theorem dX10_makeNow_113 : decode cX10_makeNow 113 = .ok (.aload_n 0, 1) := by decide +kernel
theorem dX10_makeNow_114 : decode cX10_makeNow 114 = .ok (.getfield 28, 3) := by decide +kernel
theorem dX10_makeNow_117 : decode cX10_makeNow 117 = .ok (.iload_n 3, 1) := by decide +kernel
theorem dX10_makeNow_118 : decode cX10_makeNow 118 = .ok (.iaload, 1) := by decide +kernel
theorem dX10_makeNow_119 : decode cX10_makeNow 119 = .ok (.iconst 1, 1) := by decide +kernel
theorem dX10_makeNow_120 : decode cX10_makeNow 120 = .ok (.iadd, 1) := by decide +kernel
theorem dX10_makeNow_121 : decode cX10_makeNow 121 = .ok (.invokevirtual 220, 3) := by decide +kernel
theorem dX10_makeNow_124 : decode cX10_makeNow 124 = .ok (.iinc 4 1, 3) := by decide +kernel
theorem dX10_makeNow_127 : decode cX10_makeNow 127 = .ok (.goto (-31), 3) := by decide +kernel
theorem dX10_makeNow_130 : decode cX10_makeNow 130 = .ok (.aload_n 0, 1) := by decide +kernel
theorem dX10_makeNow_131 : decode cX10_makeNow 131 = .ok (.getfield 34, 3) := by decide +kernel
theorem dX10_makeNow_134 : decode cX10_makeNow 134 = .ok (.iload_n 3, 1) := by decide +kernel
theorem dX10_makeNow_135 : decode cX10_makeNow 135 = .ok (.iaload, 1) := by decide +kernel
theorem dX10_makeNow_136 : decode cX10_makeNow 136 = .ok (.istore_n 2, 1) := by decide +kernel
theorem dX10_makeNow_137 : decode cX10_makeNow 137 = .ok (.iinc 3 1, 3) := by decide +kernel
theorem dX10_makeNow_140 : decode cX10_makeNow 140 = .ok (.goto (-131), 3) := by decide +kernel
theorem dX10_makeNow_143 : decode cX10_makeNow 143 = .ok (.iload_n 2, 1) := by decide +kernel
theorem dX10_makeNow_144 : decode cX10_makeNow 144 = .ok (.aload_n 0, 1) := by decide +kernel
theorem dX10_makeNow_145 : decode cX10_makeNow 145 = .ok (.getfield 7, 3) := by decide +kernel
theorem dX10_makeNow_148 : decode cX10_makeNow 148 = .ok (.iconst 2, 1) := by decide +kernel
theorem dX10_makeNow_149 : decode cX10_makeNow 149 = .ok (.iaload, 1) := by decide +kernel
theorem dX10_makeNow_150 : decode cX10_makeNow 150 = .ok (.if_icmp .ge 28, 3) := by decide +kernel
theorem dX10_makeNow_153 : decode cX10_makeNow 153 = .ok (.aload_n 0, 1) := by decide +kernel
theorem dX10_makeNow_154 : decode cX10_makeNow 154 = .ok (.aload_n 0, 1) := by decide +kernel
theorem dX10_makeNow_155 : decode cX10_makeNow 155 = .ok (.iload_n 2, 1) := by decide +kernel
theorem dX10_makeNow_156 : decode cX10_makeNow 156 = .ok (.invokevirtual 120, 3) := by decide +kernel
theorem dX10_makeNow_159 : decode cX10_makeNow 159 = .ok (.aload_n 0, 1) := by decide +kernel
theorem dX10_makeNow_160 : decode cX10_makeNow 160 = .ok (.getfield 7, 3) := by decide +kernel
theorem dX10_makeNow_163 : decode cX10_makeNow 163 = .ok (.sipush 210, 3) := by decide +kernel
theorem dX10_makeNow_166 : decode cX10_makeNow 166 = .ok (.iload_n 2, 1) := by decide +kernel
theorem dX10_makeNow_167 : decode cX10_makeNow 167 = .ok (.iadd, 1) := by decide +kernel
theorem dX10_makeNow_168 : decode cX10_makeNow 168 = .ok (.iaload, 1) := by decide +kernel
theorem dX10_makeNow_169 : decode cX10_makeNow 169 = .ok (.invokevirtual 220, 3) := by decide +kernel
theorem dX10_makeNow_172 : decode cX10_makeNow 172 = .ok (.iinc 2 1, 3) := by decide +kernel
theorem dX10_makeNow_175 : decode cX10_makeNow 175 = .ok (.goto (-32), 3) := by decide +kernel
theorem dX10_makeNow_178 : decode cX10_makeNow 178 = .ok (.iconst 0, 1) := by decide +kernel
theorem dX10_makeNow_179 : decode cX10_makeNow 179 = .ok (.istore_n 3, 1) := by decide +kernel
theorem dX10_makeNow_180 : decode cX10_makeNow 180 = .ok (.iload_n 3, 1) := by decide +kernel
theorem dX10_makeNow_181 : decode cX10_makeNow 181 = .ok (.iconst 2, 1) := by decide +kernel
theorem dX10_makeNow_182 : decode cX10_makeNow 182 = .ok (.aload_n 0, 1) := by decide +kernel
theorem dX10_makeNow_183 : decode cX10_makeNow 183 = .ok (.getfield 7, 3) := by decide +kernel
theorem dX10_makeNow_186 : decode cX10_makeNow 186 = .ok (.iconst 3, 1) := by decide +kernel
theorem dX10_makeNow_187 : decode cX10_makeNow 187 = .ok (.iaload, 1) := by decide +kernel
theorem dX10_makeNow_188 : decode cX10_makeNow 188 = .ok (.imul, 1) := by decide +kernel
theorem dX10_makeNow_189 : decode cX10_makeNow 189 = .ok (.if_icmp .ge 66, 3) := by decide +kernel
theorem dX10_makeNow_192 : decode cX10_makeNow 192 = .ok (.aload_n 0, 1) := by decide +kernel
theorem dX10_makeNow_193 : decode cX10_makeNow 193 = .ok (.aload_n 0, 1) := by decide +kernel
theorem dX10_makeNow_194 : decode cX10_makeNow 194 = .ok (.getfield 7, 3) := by decide +kernel
theorem dX10_makeNow_197 : decode cX10_makeNow 197 = .ok (.sipush 410, 3) := by decide +kernel
theorem dX10_makeNow_200 : decode cX10_makeNow 200 = .ok (.iload_n 3, 1) := by decide +kernel
theorem dX10_makeNow_201 : decode cX10_makeNow 201 = .ok (.iadd, 1) := by decide +kernel
theorem dX10_makeNow_202 : decode cX10_makeNow 202 = .ok (.iaload, 1) := by decide +kernel
theorem dX10_makeNow_203 : decode cX10_makeNow 203 = .ok (.iload_n 1, 1) := by decide +kernel
theorem dX10_makeNow_204 : decode cX10_makeNow 204 = .ok (.invokevirtual 223, 3) := by decide +kernel
theorem dX10_makeNow_207 : decode cX10_makeNow 207 = .ok (.istore 4, 2) := by decide +kernel
theorem dX10_makeNow_209 : decode cX10_makeNow 209 = .ok (.aload_n 0, 1) := by decide +kernel
theorem dX10_makeNow_210 : decode cX10_makeNow 210 = .ok (.getfield 7, 3) := by decide +kernel
theorem dX10_makeNow_213 : decode cX10_makeNow 213 = .ok (.sipush 410, 3) := by decide +kernel
theorem dX10_makeNow_216 : decode cX10_makeNow 216 = .ok (.iload_n 3, 1) := by decide +kernel
theorem dX10_makeNow_217 : decode cX10_makeNow 217 = .ok (.iadd, 1) := by decide +kernel
theorem dX10_makeNow_218 : decode cX10_makeNow 218 = .ok (.iconst 1, 1) := by decide +kernel
theorem dX10_makeNow_219 : decode cX10_makeNow 219 = .ok (.iadd, 1) := by decide +kernel
theorem dX10_makeNow_220 : decode cX10_makeNow 220 = .ok (.dup2, 1) := by decide +kernel
theorem dX10_makeNow_221 : decode cX10_makeNow 221 = .ok (.iaload, 1) := by decide +kernel
theorem dX10_makeNow_222 : decode cX10_makeNow 222 = .ok (.iload 4, 2) := by decide +kernel
theorem dX10_makeNow_224 : decode cX10_makeNow 224 = .ok (.aload_n 0, 1) := by decide +kernel
theorem dX10_makeNow_225 : decode cX10_makeNow 225 = .ok (.getfield 7, 3) := by decide +kernel
theorem dX10_makeNow_228 : decode cX10_makeNow 228 = .ok (.sipush 410, 3) := by decide +kernel
theorem dX10_makeNow_231 : decode cX10_makeNow 231 = .ok (.iload_n 3, 1) := by decide +kernel
theorem dX10_makeNow_232 : decode cX10_makeNow 232 = .ok (.iadd, 1) := by decide +kernel
theorem dX10_makeNow_233 : decode cX10_makeNow 233 = .ok (.iaload, 1) := by decide +kernel
theorem dX10_makeNow_234 : decode cX10_makeNow 234 = .ok (.isub, 1) := by decide +kernel
theorem dX10_makeNow_235 : decode cX10_makeNow 235 = .ok (.iadd, 1) := by decide +kernel
theorem dX10_makeNow_236 : decode cX10_makeNow 236 = .ok (.iastore, 1) := by decide +kernel
theorem dX10_makeNow_237 : decode cX10_makeNow 237 = .ok (.aload_n 0, 1) := by decide +kernel
theorem dX10_makeNow_238 : decode cX10_makeNow 238 = .ok (.getfield 7, 3) := by decide +kernel
theorem dX10_makeNow_241 : decode cX10_makeNow 241 = .ok (.sipush 410, 3) := by decide +kernel
theorem dX10_makeNow_244 : decode cX10_makeNow 244 = .ok (.iload_n 3, 1) := by decide +kernel
theorem dX10_makeNow_245 : decode cX10_makeNow 245 = .ok (.iadd, 1) := by decide +kernel
theorem dX10_makeNow_246 : decode cX10_makeNow 246 = .ok (.iload 4, 2) := by decide +kernel
theorem dX10_makeNow_248 : decode cX10_makeNow 248 = .ok (.iastore, 1) := by decide +kernel
theorem dX10_makeNow_249 : decode cX10_makeNow 249 = .ok (.iinc 3 2, 3) := by decide +kernel
theorem dX10_makeNow_252 : decode cX10_makeNow 252 = .ok (.goto (-72), 3) := by decide +kernel
theorem dX10_makeNow_255 : decode cX10_makeNow 255 = .ok (.aload_n 0, 1) := by decide +kernel
theorem dX10_makeNow_256 : decode cX10_makeNow 256 = .ok (.getfield 7, 3) := by decide +kernel
theorem dX10_makeNow_259 : decode cX10_makeNow 259 = .ok (.iconst 2, 1) := by decide +kernel
theorem dX10_makeNow_260 : decode cX10_makeNow 260 = .ok (.aload_n 0, 1) := by decide +kernel
theorem dX10_makeNow_261 : decode cX10_makeNow 261 = .ok (.getfield 217, 3) := by decide +kernel
theorem dX10_makeNow_264 : decode cX10_makeNow 264 = .ok (.iastore, 1) := by decide +kernel
theorem dX10_makeNow_265 : decode cX10_makeNow 265 = .ok (.iconst 0, 1) := by decide +kernel
theorem dX10_makeNow_266 : decode cX10_makeNow 266 = .ok (.istore_n 3, 1) := by decide +kernel
theorem dX10_makeNow_267 : decode cX10_makeNow 267 = .ok (.iload_n 3, 1) := by decide +kernel
theorem dX10_makeNow_268 : decode cX10_makeNow 268 = .ok (.sipush 200, 3) := by decide +kernel
theorem dX10_makeNow_271 : decode cX10_makeNow 271 = .ok (.if_icmp .ge 64, 3) := by decide +kernel
theorem dX10_makeNow_274 : decode cX10_makeNow 274 = .ok (.aload_n 0, 1) := by decide +kernel
theorem dX10_makeNow_275 : decode cX10_makeNow 275 = .ok (.getfield 7, 3) := by decide +kernel
theorem dX10_makeNow_278 : decode cX10_makeNow 278 = .ok (.bipush 10, 2) := by decide +kernel
theorem dX10_makeNow_280 : decode cX10_makeNow 280 = .ok (.iload_n 3, 1) := by decide +kernel
theorem dX10_makeNow_281 : decode cX10_makeNow 281 = .ok (.iadd, 1) := by decide +kernel
theorem dX10_makeNow_282 : decode cX10_makeNow 282 = .ok (.iload_n 3, 1) := by decide +kernel
theorem dX10_makeNow_283 : decode cX10_makeNow 283 = .ok (.aload_n 0, 1) := by decide +kernel
theorem dX10_makeNow_284 : decode cX10_makeNow 284 = .ok (.getfield 217, 3) := by decide +kernel
theorem dX10_makeNow_287 : decode cX10_makeNow 287 = .ok (.if_icmp .ge 12, 3) := by decide +kernel
theorem dX10_makeNow_290 : decode cX10_makeNow 290 = .ok (.aload_n 0, 1) := by decide +kernel
theorem dX10_makeNow_291 : decode cX10_makeNow 291 = .ok (.getfield 62, 3) := by decide +kernel
theorem dX10_makeNow_294 : decode cX10_makeNow 294 = .ok (.iload_n 3, 1) := by decide +kernel
theorem dX10_makeNow_295 : decode cX10_makeNow 295 = .ok (.iaload, 1) := by decide +kernel
theorem dX10_makeNow_296 : decode cX10_makeNow 296 = .ok (.goto 4, 3) := by decide +kernel
theorem dX10_makeNow_299 : decode cX10_makeNow 299 = .ok (.iconst 0, 1) := by decide +kernel
theorem dX10_makeNow_300 : decode cX10_makeNow 300 = .ok (.iastore, 1) := by decide +kernel
theorem dX10_makeNow_301 : decode cX10_makeNow 301 = .ok (.aload_n 0, 1) := by decide +kernel
theorem dX10_makeNow_302 : decode cX10_makeNow 302 = .ok (.getfield 7, 3) := by decide +kernel
theorem dX10_makeNow_305 : decode cX10_makeNow 305 = .ok (.sipush 210, 3) := by decide +kernel
theorem dX10_makeNow_308 : decode cX10_makeNow 308 = .ok (.iload_n 3, 1) := by decide +kernel
theorem dX10_makeNow_309 : decode cX10_makeNow 309 = .ok (.iadd, 1) := by decide +kernel
theorem dX10_makeNow_310 : decode cX10_makeNow 310 = .ok (.iload_n 3, 1) := by decide +kernel
theorem dX10_makeNow_311 : decode cX10_makeNow 311 = .ok (.aload_n 0, 1) := by decide +kernel
theorem dX10_makeNow_312 : decode cX10_makeNow 312 = .ok (.getfield 217, 3) := by decide +kernel
theorem dX10_makeNow_315 : decode cX10_makeNow 315 = .ok (.if_icmp .ge 12, 3) := by decide +kernel
theorem dX10_makeNow_318 : decode cX10_makeNow 318 = .ok (.aload_n 0, 1) := by decide +kernel
theorem dX10_makeNow_319 : decode cX10_makeNow 319 = .ok (.getfield 65, 3) := by decide +kernel
theorem dX10_makeNow_322 : decode cX10_makeNow 322 = .ok (.iload_n 3, 1) := by decide +kernel
theorem dX10_makeNow_323 : decode cX10_makeNow 323 = .ok (.iaload, 1) := by decide +kernel
theorem dX10_makeNow_324 : decode cX10_makeNow 324 = .ok (.goto 4, 3) := by decide +kernel
theorem dX10_makeNow_327 : decode cX10_makeNow 327 = .ok (.iconst 0, 1) := by decide +kernel
theorem dX10_makeNow_328 : decode cX10_makeNow 328 = .ok (.iastore, 1) := by decide +kernel
theorem dX10_makeNow_329 : decode cX10_makeNow 329 = .ok (.iinc 3 1, 3) := by decide +kernel
theorem dX10_makeNow_332 : decode cX10_makeNow 332 = .ok (.goto (-65), 3) := by decide +kernel
theorem dX10_makeNow_335 : decode cX10_makeNow 335 = .ok (.return_, 1) := by decide +kernel
theorem dX10_writeDown_0 : decode cX10_writeDown 0 = .ok (.aload_n 0, 1) := by decide +kernel
theorem dX10_writeDown_1 : decode cX10_writeDown 1 = .ok (.getfield 7, 3) := by decide +kernel
theorem dX10_writeDown_4 : decode cX10_writeDown 4 = .ok (.bipush 9, 2) := by decide +kernel
theorem dX10_writeDown_6 : decode cX10_writeDown 6 = .ok (.iaload, 1) := by decide +kernel
theorem dX10_writeDown_7 : decode cX10_writeDown 7 = .ok (.bipush 24, 2) := by decide +kernel
theorem dX10_writeDown_9 : decode cX10_writeDown 9 = .ok (.if_icmp .ne 45, 3) := by decide +kernel
theorem dX10_writeDown_12 : decode cX10_writeDown 12 = .ok (.sipush 442, 3) := by decide +kernel
theorem dX10_writeDown_15 : decode cX10_writeDown 15 = .ok (.istore_n 1, 1) := by decide +kernel
theorem dX10_writeDown_16 : decode cX10_writeDown 16 = .ok (.iload_n 1, 1) := by decide +kernel
theorem dX10_writeDown_17 : decode cX10_writeDown 17 = .ok (.sipush 511, 3) := by decide +kernel
theorem dX10_writeDown_20 : decode cX10_writeDown 20 = .ok (.if_icmp .ge 23, 3) := by decide +kernel
theorem dX10_writeDown_23 : decode cX10_writeDown 23 = .ok (.aload_n 0, 1) := by decide +kernel
theorem dX10_writeDown_24 : decode cX10_writeDown 24 = .ok (.getfield 7, 3) := by decide +kernel
theorem dX10_writeDown_27 : decode cX10_writeDown 27 = .ok (.iload_n 1, 1) := by decide +kernel
theorem dX10_writeDown_28 : decode cX10_writeDown 28 = .ok (.aload_n 0, 1) := by decide +kernel
theorem dX10_writeDown_29 : decode cX10_writeDown 29 = .ok (.getfield 7, 3) := by decide +kernel
theorem dX10_writeDown_32 : decode cX10_writeDown 32 = .ok (.iload_n 1, 1) := by decide +kernel
theorem dX10_writeDown_33 : decode cX10_writeDown 33 = .ok (.iconst 3, 1) := by decide +kernel
theorem dX10_writeDown_34 : decode cX10_writeDown 34 = .ok (.iadd, 1) := by decide +kernel
theorem dX10_writeDown_35 : decode cX10_writeDown 35 = .ok (.iaload, 1) := by decide +kernel
theorem dX10_writeDown_36 : decode cX10_writeDown 36 = .ok (.iastore, 1) := by decide +kernel
theorem dX10_writeDown_37 : decode cX10_writeDown 37 = .ok (.iinc 1 1, 3) := by decide +kernel
theorem dX10_writeDown_40 : decode cX10_writeDown 40 = .ok (.goto (-24), 3) := by decide +kernel
theorem dX10_writeDown_43 : decode cX10_writeDown 43 = .ok (.aload_n 0, 1) := by decide +kernel
theorem dX10_writeDown_44 : decode cX10_writeDown 44 = .ok (.getfield 7, 3) := by decide +kernel
theorem dX10_writeDown_47 : decode cX10_writeDown 47 = .ok (.bipush 9, 2) := by decide +kernel
theorem dX10_writeDown_49 : decode cX10_writeDown 49 = .ok (.dup2, 1) := by decide +kernel
theorem dX10_writeDown_50 : decode cX10_writeDown 50 = .ok (.iaload, 1) := by decide +kernel
theorem dX10_writeDown_51 : decode cX10_writeDown 51 = .ok (.iconst 1, 1) := by decide +kernel
theorem dX10_writeDown_52 : decode cX10_writeDown 52 = .ok (.isub, 1) := by decide +kernel
theorem dX10_writeDown_53 : decode cX10_writeDown 53 = .ok (.iastore, 1) := by decide +kernel
theorem dX10_writeDown_54 : decode cX10_writeDown 54 = .ok (.sipush 442, 3) := by decide +kernel
theorem dX10_writeDown_57 : decode cX10_writeDown 57 = .ok (.iconst 3, 1) := by decide +kernel
theorem dX10_writeDown_58 : decode cX10_writeDown 58 = .ok (.aload_n 0, 1) := by decide +kernel
theorem dX10_writeDown_59 : decode cX10_writeDown 59 = .ok (.getfield 7, 3) := by decide +kernel
theorem dX10_writeDown_62 : decode cX10_writeDown 62 = .ok (.bipush 9, 2) := by decide +kernel
theorem dX10_writeDown_64 : decode cX10_writeDown 64 = .ok (.iaload, 1) := by decide +kernel
theorem dX10_writeDown_65 : decode cX10_writeDown 65 = .ok (.imul, 1) := by decide +kernel
theorem dX10_writeDown_66 : decode cX10_writeDown 66 = .ok (.iadd, 1) := by decide +kernel
theorem dX10_writeDown_67 : decode cX10_writeDown 67 = .ok (.istore_n 1, 1) := by decide +kernel
theorem dX10_writeDown_68 : decode cX10_writeDown 68 = .ok (.aload_n 0, 1) := by decide +kernel
theorem dX10_writeDown_69 : decode cX10_writeDown 69 = .ok (.getfield 7, 3) := by decide +kernel
theorem dX10_writeDown_72 : decode cX10_writeDown 72 = .ok (.iload_n 1, 1) := by decide +kernel
theorem dX10_writeDown_73 : decode cX10_writeDown 73 = .ok (.aload_n 0, 1) := by decide +kernel
theorem dX10_writeDown_74 : decode cX10_writeDown 74 = .ok (.getfield 211, 3) := by decide +kernel
theorem dX10_writeDown_77 : decode cX10_writeDown 77 = .ok (.iastore, 1) := by decide +kernel
theorem dX10_writeDown_78 : decode cX10_writeDown 78 = .ok (.aload_n 0, 1) := by decide +kernel
theorem dX10_writeDown_79 : decode cX10_writeDown 79 = .ok (.getfield 7, 3) := by decide +kernel
theorem dX10_writeDown_82 : decode cX10_writeDown 82 = .ok (.iload_n 1, 1) := by decide +kernel
theorem dX10_writeDown_83 : decode cX10_writeDown 83 = .ok (.iconst 1, 1) := by decide +kernel
theorem dX10_writeDown_84 : decode cX10_writeDown 84 = .ok (.iadd, 1) := by decide +kernel
theorem dX10_writeDown_85 : decode cX10_writeDown 85 = .ok (.aload_n 0, 1) := by decide +kernel
theorem dX10_writeDown_86 : decode cX10_writeDown 86 = .ok (.getfield 208, 3) := by decide +kernel
theorem dX10_writeDown_89 : decode cX10_writeDown 89 = .ok (.iastore, 1) := by decide +kernel
theorem dX10_writeDown_90 : decode cX10_writeDown 90 = .ok (.aload_n 0, 1) := by decide +kernel
theorem dX10_writeDown_91 : decode cX10_writeDown 91 = .ok (.getfield 7, 3) := by decide +kernel
theorem dX10_writeDown_94 : decode cX10_writeDown 94 = .ok (.iload_n 1, 1) := by decide +kernel
theorem dX10_writeDown_95 : decode cX10_writeDown 95 = .ok (.iconst 2, 1) := by decide +kernel
theorem dX10_writeDown_96 : decode cX10_writeDown 96 = .ok (.iadd, 1) := by decide +kernel
theorem dX10_writeDown_97 : decode cX10_writeDown 97 = .ok (.aload_n 0, 1) := by decide +kernel
theorem dX10_writeDown_98 : decode cX10_writeDown 98 = .ok (.iconst (-1), 1) := by decide +kernel
theorem dX10_writeDown_99 : decode cX10_writeDown 99 = .ok (.invokevirtual 226, 3) := by decide +kernel
theorem dX10_writeDown_102 : decode cX10_writeDown 102 = .ok (.iastore, 1) := by decide +kernel
theorem dX10_writeDown_103 : decode cX10_writeDown 103 = .ok (.aload_n 0, 1) := by decide +kernel
theorem dX10_writeDown_104 : decode cX10_writeDown 104 = .ok (.getfield 7, 3) := by decide +kernel
theorem dX10_writeDown_107 : decode cX10_writeDown 107 = .ok (.bipush 9, 2) := by decide +kernel
theorem dX10_writeDown_109 : decode cX10_writeDown 109 = .ok (.dup2, 1) := by decide +kernel
theorem dX10_writeDown_110 : decode cX10_writeDown 110 = .ok (.iaload, 1) := by decide +kernel
theorem dX10_writeDown_111 : decode cX10_writeDown 111 = .ok (.iconst 1, 1) := by decide +kernel
theorem dX10_writeDown_112 : decode cX10_writeDown 112 = .ok (.iadd, 1) := by decide +kernel
theorem dX10_writeDown_113 : decode cX10_writeDown 113 = .ok (.iastore, 1) := by decide +kernel
theorem dX10_writeDown_114 : decode cX10_writeDown 114 = .ok (.return_, 1) := by decide +kernel
theorem dX10_roundNow_0 : decode cX10_roundNow 0 = .ok (.aload_n 0, 1) := by decide +kernel
theorem dX10_roundNow_1 : decode cX10_roundNow 1 = .ok (.invokevirtual 229, 3) := by decide +kernel
theorem dX10_roundNow_4 : decode cX10_roundNow 4 = .ok (.aload_n 0, 1) := by decide +kernel
theorem dX10_roundNow_5 : decode cX10_roundNow 5 = .ok (.getfield 211, 3) := by decide +kernel
theorem dX10_roundNow_8 : decode cX10_roundNow 8 = .ok (.ifCond .eq 14, 3) := by decide +kernel
theorem dX10_roundNow_11 : decode cX10_roundNow 11 = .ok (.aload_n 0, 1) := by decide +kernel
theorem dX10_roundNow_12 : decode cX10_roundNow 12 = .ok (.iconst (-1), 1) := by decide +kernel
theorem dX10_roundNow_13 : decode cX10_roundNow 13 = .ok (.invokevirtual 226, 3) := by decide +kernel
theorem dX10_roundNow_16 : decode cX10_roundNow 16 = .ok (.sipush 200, 3) := by decide +kernel
theorem dX10_roundNow_19 : decode cX10_roundNow 19 = .ok (.if_icmp .le 5, 3) := by decide +kernel
theorem dX10_roundNow_22 : decode cX10_roundNow 22 = .ok (.iconst 0, 1) := by decide +kernel
theorem dX10_roundNow_23 : decode cX10_roundNow 23 = .ok (.ireturn, 1) := by decide +kernel
theorem dX10_roundNow_24 : decode cX10_roundNow 24 = .ok (.aload_n 0, 1) := by decide +kernel
theorem dX10_roundNow_25 : decode cX10_roundNow 25 = .ok (.invokevirtual 232, 3) := by decide +kernel
theorem dX10_roundNow_28 : decode cX10_roundNow 28 = .ok (.aload_n 0, 1) := by decide +kernel
theorem dX10_roundNow_29 : decode cX10_roundNow 29 = .ok (.iconst (-1), 1) := by decide +kernel
theorem dX10_roundNow_30 : decode cX10_roundNow 30 = .ok (.invokevirtual 235, 3) := by decide +kernel
theorem dX10_roundNow_33 : decode cX10_roundNow 33 = .ok (.aload_n 0, 1) := by decide +kernel
theorem dX10_roundNow_34 : decode cX10_roundNow 34 = .ok (.getfield 7, 3) := by decide +kernel
theorem dX10_roundNow_37 : decode cX10_roundNow 37 = .ok (.bipush 8, 2) := by decide +kernel
theorem dX10_roundNow_39 : decode cX10_roundNow 39 = .ok (.dup2, 1) := by decide +kernel
theorem dX10_roundNow_40 : decode cX10_roundNow 40 = .ok (.iaload, 1) := by decide +kernel
theorem dX10_roundNow_41 : decode cX10_roundNow 41 = .ok (.iconst 1, 1) := by decide +kernel
theorem dX10_roundNow_42 : decode cX10_roundNow 42 = .ok (.iadd, 1) := by decide +kernel
theorem dX10_roundNow_43 : decode cX10_roundNow 43 = .ok (.iastore, 1) := by decide +kernel
theorem dX10_roundNow_44 : decode cX10_roundNow 44 = .ok (.iconst 1, 1) := by decide +kernel
theorem dX10_roundNow_45 : decode cX10_roundNow 45 = .ok (.ireturn, 1) := by decide +kernel
theorem dX10_stepAt_0 : decode cX10_stepAt 0 = .ok (.sipush 1054, 3) := by decide +kernel
theorem dX10_stepAt_3 : decode cX10_stepAt 3 = .ok (.sipush 1052, 3) := by decide +kernel
theorem dX10_stepAt_6 : decode cX10_stepAt 6 = .ok (.iload_n 0, 1) := by decide +kernel
theorem dX10_stepAt_7 : decode cX10_stepAt 7 = .ok (.iload_n 1, 1) := by decide +kernel
theorem dX10_stepAt_8 : decode cX10_stepAt 8 = .ok (.iadd, 1) := by decide +kernel
theorem dX10_stepAt_9 : decode cX10_stepAt 9 = .ok (.bipush 20, 2) := by decide +kernel
theorem dX10_stepAt_11 : decode cX10_stepAt 11 = .ok (.irem, 1) := by decide +kernel
theorem dX10_stepAt_12 : decode cX10_stepAt 12 = .ok (.imul, 1) := by decide +kernel
theorem dX10_stepAt_13 : decode cX10_stepAt 13 = .ok (.iadd, 1) := by decide +kernel
theorem dX10_stepAt_14 : decode cX10_stepAt 14 = .ok (.ireturn, 1) := by decide +kernel
theorem dX10_keep_0 : decode cX10_keep 0 = .ok (.aload_n 0, 1) := by decide +kernel
theorem dX10_keep_1 : decode cX10_keep 1 = .ok (.getfield 7, 3) := by decide +kernel
theorem dX10_keep_4 : decode cX10_keep 4 = .ok (.iconst 0, 1) := by decide +kernel
theorem dX10_keep_5 : decode cX10_keep 5 = .ok (.iaload, 1) := by decide +kernel
theorem dX10_keep_6 : decode cX10_keep 6 = .ok (.bipush 20, 2) := by decide +kernel
theorem dX10_keep_8 : decode cX10_keep 8 = .ok (.if_icmp .ne 30, 3) := by decide +kernel
theorem dX10_keep_11 : decode cX10_keep 11 = .ok (.aload_n 0, 1) := by decide +kernel
theorem dX10_keep_12 : decode cX10_keep 12 = .ok (.getfield 7, 3) := by decide +kernel
theorem dX10_keep_15 : decode cX10_keep 15 = .ok (.iconst 1, 1) := by decide +kernel
theorem dX10_keep_16 : decode cX10_keep 16 = .ok (.aload_n 0, 1) := by decide +kernel
theorem dX10_keep_17 : decode cX10_keep 17 = .ok (.getfield 7, 3) := by decide +kernel
theorem dX10_keep_20 : decode cX10_keep 20 = .ok (.iconst 1, 1) := by decide +kernel
theorem dX10_keep_21 : decode cX10_keep 21 = .ok (.iaload, 1) := by decide +kernel
theorem dX10_keep_22 : decode cX10_keep 22 = .ok (.iconst 1, 1) := by decide +kernel
theorem dX10_keep_23 : decode cX10_keep 23 = .ok (.iadd, 1) := by decide +kernel
theorem dX10_keep_24 : decode cX10_keep 24 = .ok (.bipush 20, 2) := by decide +kernel
theorem dX10_keep_26 : decode cX10_keep 26 = .ok (.irem, 1) := by decide +kernel
theorem dX10_keep_27 : decode cX10_keep 27 = .ok (.iastore, 1) := by decide +kernel
theorem dX10_keep_28 : decode cX10_keep 28 = .ok (.aload_n 0, 1) := by decide +kernel
theorem dX10_keep_29 : decode cX10_keep 29 = .ok (.getfield 7, 3) := by decide +kernel
theorem dX10_keep_32 : decode cX10_keep 32 = .ok (.iconst 0, 1) := by decide +kernel
theorem dX10_keep_33 : decode cX10_keep 33 = .ok (.dup2, 1) := by decide +kernel
theorem dX10_keep_34 : decode cX10_keep 34 = .ok (.iaload, 1) := by decide +kernel
theorem dX10_keep_35 : decode cX10_keep 35 = .ok (.iconst 1, 1) := by decide +kernel
theorem dX10_keep_36 : decode cX10_keep 36 = .ok (.isub, 1) := by decide +kernel
theorem dX10_keep_37 : decode cX10_keep 37 = .ok (.iastore, 1) := by decide +kernel
theorem dX10_keep_38 : decode cX10_keep 38 = .ok (.aload_n 0, 1) := by decide +kernel
theorem dX10_keep_39 : decode cX10_keep 39 = .ok (.getfield 7, 3) := by decide +kernel
theorem dX10_keep_42 : decode cX10_keep 42 = .ok (.iconst 1, 1) := by decide +kernel
theorem dX10_keep_43 : decode cX10_keep 43 = .ok (.iaload, 1) := by decide +kernel
theorem dX10_keep_44 : decode cX10_keep 44 = .ok (.aload_n 0, 1) := by decide +kernel
theorem dX10_keep_45 : decode cX10_keep 45 = .ok (.getfield 7, 3) := by decide +kernel
theorem dX10_keep_48 : decode cX10_keep 48 = .ok (.iconst 0, 1) := by decide +kernel
theorem dX10_keep_49 : decode cX10_keep 49 = .ok (.iaload, 1) := by decide +kernel
theorem dX10_keep_50 : decode cX10_keep 50 = .ok (.invokestatic 238, 3) := by decide +kernel
theorem dX10_keep_53 : decode cX10_keep 53 = .ok (.istore_n 1, 1) := by decide +kernel
theorem dX10_keep_54 : decode cX10_keep 54 = .ok (.iconst 0, 1) := by decide +kernel
theorem dX10_keep_55 : decode cX10_keep 55 = .ok (.istore_n 2, 1) := by decide +kernel
theorem dX10_keep_56 : decode cX10_keep 56 = .ok (.iload_n 2, 1) := by decide +kernel
theorem dX10_keep_57 : decode cX10_keep 57 = .ok (.sipush 1052, 3) := by decide +kernel
theorem dX10_keep_60 : decode cX10_keep 60 = .ok (.if_icmp .ge 25, 3) := by decide +kernel
theorem dX10_keep_63 : decode cX10_keep 63 = .ok (.aload_n 0, 1) := by decide +kernel
theorem dX10_keep_64 : decode cX10_keep 64 = .ok (.getfield 7, 3) := by decide +kernel
theorem dX10_keep_67 : decode cX10_keep 67 = .ok (.iload_n 1, 1) := by decide +kernel
theorem dX10_keep_68 : decode cX10_keep 68 = .ok (.iload_n 2, 1) := by decide +kernel
theorem dX10_keep_69 : decode cX10_keep 69 = .ok (.iadd, 1) := by decide +kernel
theorem dX10_keep_70 : decode cX10_keep 70 = .ok (.aload_n 0, 1) := by decide +kernel
theorem dX10_keep_71 : decode cX10_keep 71 = .ok (.getfield 7, 3) := by decide +kernel
theorem dX10_keep_74 : decode cX10_keep 74 = .ok (.iconst 2, 1) := by decide +kernel
theorem dX10_keep_75 : decode cX10_keep 75 = .ok (.iload_n 2, 1) := by decide +kernel
theorem dX10_keep_76 : decode cX10_keep 76 = .ok (.iadd, 1) := by decide +kernel
theorem dX10_keep_77 : decode cX10_keep 77 = .ok (.iaload, 1) := by decide +kernel
theorem dX10_keep_78 : decode cX10_keep 78 = .ok (.iastore, 1) := by decide +kernel
theorem dX10_keep_79 : decode cX10_keep 79 = .ok (.iinc 2 1, 3) := by decide +kernel
theorem dX10_keep_82 : decode cX10_keep 82 = .ok (.goto (-26), 3) := by decide +kernel
theorem dX10_keep_85 : decode cX10_keep 85 = .ok (.aload_n 0, 1) := by decide +kernel
theorem dX10_keep_86 : decode cX10_keep 86 = .ok (.getfield 7, 3) := by decide +kernel
theorem dX10_keep_89 : decode cX10_keep 89 = .ok (.iconst 0, 1) := by decide +kernel
theorem dX10_keep_90 : decode cX10_keep 90 = .ok (.dup2, 1) := by decide +kernel
theorem dX10_keep_91 : decode cX10_keep 91 = .ok (.iaload, 1) := by decide +kernel
theorem dX10_keep_92 : decode cX10_keep 92 = .ok (.iconst 1, 1) := by decide +kernel
theorem dX10_keep_93 : decode cX10_keep 93 = .ok (.iadd, 1) := by decide +kernel
theorem dX10_keep_94 : decode cX10_keep 94 = .ok (.iastore, 1) := by decide +kernel
theorem dX10_keep_95 : decode cX10_keep 95 = .ok (.return_, 1) := by decide +kernel
theorem dX10_undo_0 : decode cX10_undo 0 = .ok (.aload_n 0, 1) := by decide +kernel
theorem dX10_undo_1 : decode cX10_undo 1 = .ok (.getfield 7, 3) := by decide +kernel
theorem dX10_undo_4 : decode cX10_undo 4 = .ok (.iconst 0, 1) := by decide +kernel
theorem dX10_undo_5 : decode cX10_undo 5 = .ok (.iaload, 1) := by decide +kernel
theorem dX10_undo_6 : decode cX10_undo 6 = .ok (.ifCond .ne 5, 3) := by decide +kernel
theorem dX10_undo_9 : decode cX10_undo 9 = .ok (.iconst (-1), 1) := by decide +kernel
theorem dX10_undo_10 : decode cX10_undo 10 = .ok (.ireturn, 1) := by decide +kernel
theorem dX10_undo_11 : decode cX10_undo 11 = .ok (.aload_n 0, 1) := by decide +kernel
theorem dX10_undo_12 : decode cX10_undo 12 = .ok (.getfield 7, 3) := by decide +kernel
theorem dX10_undo_15 : decode cX10_undo 15 = .ok (.iconst 0, 1) := by decide +kernel
theorem dX10_undo_16 : decode cX10_undo 16 = .ok (.dup2, 1) := by decide +kernel
theorem dX10_undo_17 : decode cX10_undo 17 = .ok (.iaload, 1) := by decide +kernel
theorem dX10_undo_18 : decode cX10_undo 18 = .ok (.iconst 1, 1) := by decide +kernel
theorem dX10_undo_19 : decode cX10_undo 19 = .ok (.isub, 1) := by decide +kernel
theorem dX10_undo_20 : decode cX10_undo 20 = .ok (.iastore, 1) := by decide +kernel
theorem dX10_undo_21 : decode cX10_undo 21 = .ok (.aload_n 0, 1) := by decide +kernel
theorem dX10_undo_22 : decode cX10_undo 22 = .ok (.getfield 7, 3) := by decide +kernel
theorem dX10_undo_25 : decode cX10_undo 25 = .ok (.iconst 1, 1) := by decide +kernel
theorem dX10_undo_26 : decode cX10_undo 26 = .ok (.iaload, 1) := by decide +kernel
theorem dX10_undo_27 : decode cX10_undo 27 = .ok (.aload_n 0, 1) := by decide +kernel
theorem dX10_undo_28 : decode cX10_undo 28 = .ok (.getfield 7, 3) := by decide +kernel
theorem dX10_undo_31 : decode cX10_undo 31 = .ok (.iconst 0, 1) := by decide +kernel
theorem dX10_undo_32 : decode cX10_undo 32 = .ok (.iaload, 1) := by decide +kernel
theorem dX10_undo_33 : decode cX10_undo 33 = .ok (.invokestatic 238, 3) := by decide +kernel
theorem dX10_undo_36 : decode cX10_undo 36 = .ok (.istore_n 1, 1) := by decide +kernel
theorem dX10_undo_37 : decode cX10_undo 37 = .ok (.iconst 0, 1) := by decide +kernel
theorem dX10_undo_38 : decode cX10_undo 38 = .ok (.istore_n 2, 1) := by decide +kernel
theorem dX10_undo_39 : decode cX10_undo 39 = .ok (.iload_n 2, 1) := by decide +kernel
theorem dX10_undo_40 : decode cX10_undo 40 = .ok (.sipush 1052, 3) := by decide +kernel
theorem dX10_undo_43 : decode cX10_undo 43 = .ok (.if_icmp .ge 25, 3) := by decide +kernel
theorem dX10_undo_46 : decode cX10_undo 46 = .ok (.aload_n 0, 1) := by decide +kernel
theorem dX10_undo_47 : decode cX10_undo 47 = .ok (.getfield 7, 3) := by decide +kernel
theorem dX10_undo_50 : decode cX10_undo 50 = .ok (.iconst 2, 1) := by decide +kernel
theorem dX10_undo_51 : decode cX10_undo 51 = .ok (.iload_n 2, 1) := by decide +kernel
theorem dX10_undo_52 : decode cX10_undo 52 = .ok (.iadd, 1) := by decide +kernel
theorem dX10_undo_53 : decode cX10_undo 53 = .ok (.aload_n 0, 1) := by decide +kernel
theorem dX10_undo_54 : decode cX10_undo 54 = .ok (.getfield 7, 3) := by decide +kernel
theorem dX10_undo_57 : decode cX10_undo 57 = .ok (.iload_n 1, 1) := by decide +kernel
theorem dX10_undo_58 : decode cX10_undo 58 = .ok (.iload_n 2, 1) := by decide +kernel
theorem dX10_undo_59 : decode cX10_undo 59 = .ok (.iadd, 1) := by decide +kernel
theorem dX10_undo_60 : decode cX10_undo 60 = .ok (.iaload, 1) := by decide +kernel
theorem dX10_undo_61 : decode cX10_undo 61 = .ok (.iastore, 1) := by decide +kernel
theorem dX10_undo_62 : decode cX10_undo 62 = .ok (.iinc 2 1, 3) := by decide +kernel
theorem dX10_undo_65 : decode cX10_undo 65 = .ok (.goto (-26), 3) := by decide +kernel
theorem dX10_undo_68 : decode cX10_undo 68 = .ok (.aload_n 0, 1) := by decide +kernel
theorem dX10_undo_69 : decode cX10_undo 69 = .ok (.getfield 7, 3) := by decide +kernel
theorem dX10_undo_72 : decode cX10_undo 72 = .ok (.iconst 0, 1) := by decide +kernel
theorem dX10_undo_73 : decode cX10_undo 73 = .ok (.iaload, 1) := by decide +kernel
theorem dX10_undo_74 : decode cX10_undo 74 = .ok (.ireturn, 1) := by decide +kernel
theorem dX10_four_0 : decode cX10_four 0 = .ok (.bipush 24, 2) := by decide +kernel
theorem dX10_four_2 : decode cX10_four 2 = .ok (.istore_n 2, 1) := by decide +kernel
theorem dX10_four_3 : decode cX10_four 3 = .ok (.iload_n 2, 1) := by decide +kernel
theorem dX10_four_4 : decode cX10_four 4 = .ok (.ifCond .lt 35, 3) := by decide +kernel
theorem dX10_four_7 : decode cX10_four 7 = .ok (.aload_n 0, 1) := by decide +kernel
theorem dX10_four_8 : decode cX10_four 8 = .ok (.getfield 68, 3) := by decide +kernel
theorem dX10_four_11 : decode cX10_four 11 = .ok (.aload_n 0, 1) := by decide +kernel
theorem dX10_four_12 : decode cX10_four 12 = .ok (.getfield 241, 3) := by decide +kernel
theorem dX10_four_15 : decode cX10_four 15 = .ok (.iload_n 1, 1) := by decide +kernel
theorem dX10_four_16 : decode cX10_four 16 = .ok (.iload_n 2, 1) := by decide +kernel
theorem dX10_four_17 : decode cX10_four 17 = .ok (.ishr, 1) := by decide +kernel
theorem dX10_four_18 : decode cX10_four 18 = .ok (.sipush 255, 3) := by decide +kernel
theorem dX10_four_21 : decode cX10_four 21 = .ok (.iand, 1) := by decide +kernel
theorem dX10_four_22 : decode cX10_four 22 = .ok (.iastore, 1) := by decide +kernel
theorem dX10_four_23 : decode cX10_four 23 = .ok (.aload_n 0, 1) := by decide +kernel
theorem dX10_four_24 : decode cX10_four 24 = .ok (.dup, 1) := by decide +kernel
theorem dX10_four_25 : decode cX10_four 25 = .ok (.getfield 241, 3) := by decide +kernel
theorem dX10_four_28 : decode cX10_four 28 = .ok (.iconst 1, 1) := by decide +kernel
theorem dX10_four_29 : decode cX10_four 29 = .ok (.iadd, 1) := by decide +kernel
theorem dX10_four_30 : decode cX10_four 30 = .ok (.putfield 241, 3) := by decide +kernel
theorem dX10_four_33 : decode cX10_four 33 = .ok (.iinc 2 (-8), 3) := by decide +kernel
theorem dX10_four_36 : decode cX10_four 36 = .ok (.goto (-33), 3) := by decide +kernel
theorem dX10_four_39 : decode cX10_four 39 = .ok (.return_, 1) := by decide +kernel
theorem dX10_feed_0 : decode cX10_feed 0 = .ok (.aload_n 0, 1) := by decide +kernel
theorem dX10_feed_1 : decode cX10_feed 1 = .ok (.getfield 241, 3) := by decide +kernel
theorem dX10_feed_4 : decode cX10_feed 4 = .ok (.bipush 20, 2) := by decide +kernel
theorem dX10_feed_6 : decode cX10_feed 6 = .ok (.iadd, 1) := by decide +kernel
theorem dX10_feed_7 : decode cX10_feed 7 = .ok (.sipush 300, 3) := by decide +kernel
theorem dX10_feed_10 : decode cX10_feed 10 = .ok (.if_icmp .le 5, 3) := by decide +kernel
theorem dX10_feed_13 : decode cX10_feed 13 = .ok (.iconst (-1), 1) := by decide +kernel
theorem dX10_feed_14 : decode cX10_feed 14 = .ok (.ireturn, 1) := by decide +kernel
theorem dX10_feed_15 : decode cX10_feed 15 = .ok (.aload_n 0, 1) := by decide +kernel
theorem dX10_feed_16 : decode cX10_feed 16 = .ok (.iload_n 1, 1) := by decide +kernel
theorem dX10_feed_17 : decode cX10_feed 17 = .ok (.invokevirtual 244, 3) := by decide +kernel
theorem dX10_feed_20 : decode cX10_feed 20 = .ok (.aload_n 0, 1) := by decide +kernel
theorem dX10_feed_21 : decode cX10_feed 21 = .ok (.iload_n 2, 1) := by decide +kernel
theorem dX10_feed_22 : decode cX10_feed 22 = .ok (.invokevirtual 244, 3) := by decide +kernel
theorem dX10_feed_25 : decode cX10_feed 25 = .ok (.aload_n 0, 1) := by decide +kernel
theorem dX10_feed_26 : decode cX10_feed 26 = .ok (.iload_n 3, 1) := by decide +kernel
theorem dX10_feed_27 : decode cX10_feed 27 = .ok (.invokevirtual 244, 3) := by decide +kernel
theorem dX10_feed_30 : decode cX10_feed 30 = .ok (.aload_n 0, 1) := by decide +kernel
theorem dX10_feed_31 : decode cX10_feed 31 = .ok (.iload 4, 2) := by decide +kernel
theorem dX10_feed_33 : decode cX10_feed 33 = .ok (.invokevirtual 244, 3) := by decide +kernel
theorem dX10_feed_36 : decode cX10_feed 36 = .ok (.aload_n 0, 1) := by decide +kernel
theorem dX10_feed_37 : decode cX10_feed 37 = .ok (.iload 5, 2) := by decide +kernel
theorem dX10_feed_39 : decode cX10_feed 39 = .ok (.invokevirtual 244, 3) := by decide +kernel
theorem dX10_feed_42 : decode cX10_feed 42 = .ok (.aload_n 0, 1) := by decide +kernel
theorem dX10_feed_43 : decode cX10_feed 43 = .ok (.getfield 241, 3) := by decide +kernel
theorem dX10_feed_46 : decode cX10_feed 46 = .ok (.ireturn, 1) := by decide +kernel
theorem dX10_end_0 : decode cX10_end 0 = .ok (.iload_n 1, 1) := by decide +kernel
theorem dX10_end_1 : decode cX10_end 1 = .ok (.iconst 0, 1) := by decide +kernel
theorem dX10_end_2 : decode cX10_end 2 = .ok (.aload_n 0, 1) := by decide +kernel
theorem dX10_end_3 : decode cX10_end 3 = .ok (.getfield 241, 3) := by decide +kernel
theorem dX10_end_6 : decode cX10_end 6 = .ok (.invokestatic 103, 3) := by decide +kernel
theorem dX10_end_9 : decode cX10_end 9 = .ok (.ifCond .ne 5, 3) := by decide +kernel
theorem dX10_end_12 : decode cX10_end 12 = .ok (.iconst (-1), 1) := by decide +kernel
theorem dX10_end_13 : decode cX10_end 13 = .ok (.ireturn, 1) := by decide +kernel
theorem dX10_end_14 : decode cX10_end 14 = .ok (.aload_n 0, 1) := by decide +kernel
theorem dX10_end_15 : decode cX10_end 15 = .ok (.iload_n 1, 1) := by decide +kernel
theorem dX10_end_16 : decode cX10_end 16 = .ok (.putfield 241, 3) := by decide +kernel
theorem dX10_end_19 : decode cX10_end 19 = .ok (.iload_n 1, 1) := by decide +kernel
theorem dX10_end_20 : decode cX10_end 20 = .ok (.ireturn, 1) := by decide +kernel
theorem dX10_text_0 : decode cX10_text 0 = .ok (.aload_n 0, 1) := by decide +kernel
theorem dX10_text_1 : decode cX10_text 1 = .ok (.getfield 241, 3) := by decide +kernel
theorem dX10_text_4 : decode cX10_text 4 = .ok (.istore_n 1, 1) := by decide +kernel
theorem dX10_text_5 : decode cX10_text 5 = .ok (.aload_n 0, 1) := by decide +kernel
theorem dX10_text_6 : decode cX10_text 6 = .ok (.iconst 0, 1) := by decide +kernel
theorem dX10_text_7 : decode cX10_text 7 = .ok (.putfield 241, 3) := by decide +kernel
theorem dX10_text_10 : decode cX10_text 10 = .ok (.iload_n 1, 1) := by decide +kernel
theorem dX10_text_11 : decode cX10_text 11 = .ok (.sipush 200, 3) := by decide +kernel
theorem dX10_text_14 : decode cX10_text 14 = .ok (.if_icmp .gt 7, 3) := by decide +kernel
theorem dX10_text_17 : decode cX10_text 17 = .ok (.iconst 1, 1) := by decide +kernel
theorem dX10_text_18 : decode cX10_text 18 = .ok (.goto 4, 3) := by decide +kernel
theorem dX10_text_21 : decode cX10_text 21 = .ok (.iconst 0, 1) := by decide +kernel
theorem dX10_text_22 : decode cX10_text 22 = .ok (.istore_n 2, 1) := by decide +kernel
theorem dX10_text_23 : decode cX10_text 23 = .ok (.iconst 0, 1) := by decide +kernel
theorem dX10_text_24 : decode cX10_text 24 = .ok (.istore_n 3, 1) := by decide +kernel
theorem dX10_text_25 : decode cX10_text 25 = .ok (.iload_n 3, 1) := by decide +kernel
theorem dX10_text_26 : decode cX10_text 26 = .ok (.iload_n 1, 1) := by decide +kernel
theorem dX10_text_27 : decode cX10_text 27 = .ok (.if_icmp .ge 31, 3) := by decide +kernel
theorem dX10_text_30 : decode cX10_text 30 = .ok (.iload_n 2, 1) := by decide +kernel
theorem dX10_text_31 : decode cX10_text 31 = .ok (.ifCond .eq 19, 3) := by decide +kernel
theorem dX10_text_34 : decode cX10_text 34 = .ok (.aload_n 0, 1) := by decide +kernel
theorem dX10_text_35 : decode cX10_text 35 = .ok (.getfield 68, 3) := by decide +kernel
theorem dX10_text_38 : decode cX10_text 38 = .ok (.iload_n 3, 1) := by decide +kernel
theorem dX10_text_39 : decode cX10_text 39 = .ok (.iaload, 1) := by decide +kernel
theorem dX10_text_40 : decode cX10_text 40 = .ok (.invokestatic 247, 3) := by decide +kernel
theorem dX10_text_43 : decode cX10_text 43 = .ok (.ifCond .eq 7, 3) := by decide +kernel
theorem dX10_text_46 : decode cX10_text 46 = .ok (.iconst 1, 1) := by decide +kernel
theorem dX10_text_47 : decode cX10_text 47 = .ok (.goto 4, 3) := by decide +kernel
theorem dX10_text_50 : decode cX10_text 50 = .ok (.iconst 0, 1) := by decide +kernel
theorem dX10_text_51 : decode cX10_text 51 = .ok (.istore_n 2, 1) := by decide +kernel
theorem dX10_text_52 : decode cX10_text 52 = .ok (.iinc 3 1, 3) := by decide +kernel
theorem dX10_text_55 : decode cX10_text 55 = .ok (.goto (-30), 3) := by decide +kernel
theorem dX10_text_58 : decode cX10_text 58 = .ok (.iload_n 2, 1) := by decide +kernel
theorem dX10_text_59 : decode cX10_text 59 = .ok (.ifCond .ne 5, 3) := by decide +kernel
theorem dX10_text_62 : decode cX10_text 62 = .ok (.iconst (-1), 1) := by decide +kernel
theorem dX10_text_63 : decode cX10_text 63 = .ok (.ireturn, 1) := by decide +kernel
theorem dX10_text_64 : decode cX10_text 64 = .ok (.aload_n 0, 1) := by decide +kernel
theorem dX10_text_65 : decode cX10_text 65 = .ok (.invokevirtual 250, 3) := by decide +kernel
theorem dX10_text_68 : decode cX10_text 68 = .ok (.iconst 0, 1) := by decide +kernel
theorem dX10_text_69 : decode cX10_text 69 = .ok (.istore_n 3, 1) := by decide +kernel
theorem dX10_text_70 : decode cX10_text 70 = .ok (.iload_n 3, 1) := by decide +kernel
theorem dX10_text_71 : decode cX10_text 71 = .ok (.sipush 200, 3) := by decide +kernel
theorem dX10_text_74 : decode cX10_text 74 = .ok (.if_icmp .ge 44, 3) := by decide +kernel
theorem dX10_text_77 : decode cX10_text 77 = .ok (.aload_n 0, 1) := by decide +kernel
theorem dX10_text_78 : decode cX10_text 78 = .ok (.getfield 7, 3) := by decide +kernel
theorem dX10_text_81 : decode cX10_text 81 = .ok (.bipush 10, 2) := by decide +kernel
theorem dX10_text_83 : decode cX10_text 83 = .ok (.iload_n 3, 1) := by decide +kernel
theorem dX10_text_84 : decode cX10_text 84 = .ok (.iadd, 1) := by decide +kernel
theorem dX10_text_85 : decode cX10_text 85 = .ok (.iload_n 3, 1) := by decide +kernel
theorem dX10_text_86 : decode cX10_text 86 = .ok (.iload_n 1, 1) := by decide +kernel
theorem dX10_text_87 : decode cX10_text 87 = .ok (.if_icmp .ge 12, 3) := by decide +kernel
theorem dX10_text_90 : decode cX10_text 90 = .ok (.aload_n 0, 1) := by decide +kernel
theorem dX10_text_91 : decode cX10_text 91 = .ok (.getfield 68, 3) := by decide +kernel
theorem dX10_text_94 : decode cX10_text 94 = .ok (.iload_n 3, 1) := by decide +kernel
theorem dX10_text_95 : decode cX10_text 95 = .ok (.iaload, 1) := by decide +kernel
theorem dX10_text_96 : decode cX10_text 96 = .ok (.goto 4, 3) := by decide +kernel
theorem dX10_text_99 : decode cX10_text 99 = .ok (.iconst 0, 1) := by decide +kernel
theorem dX10_text_100 : decode cX10_text 100 = .ok (.iastore, 1) := by decide +kernel
theorem dX10_text_101 : decode cX10_text 101 = .ok (.aload_n 0, 1) := by decide +kernel
theorem dX10_text_102 : decode cX10_text 102 = .ok (.getfield 7, 3) := by decide +kernel
theorem dX10_text_105 : decode cX10_text 105 = .ok (.sipush 210, 3) := by decide +kernel
theorem dX10_text_108 : decode cX10_text 108 = .ok (.iload_n 3, 1) := by decide +kernel
theorem dX10_text_109 : decode cX10_text 109 = .ok (.iadd, 1) := by decide +kernel
theorem dX10_text_110 : decode cX10_text 110 = .ok (.iconst 0, 1) := by decide +kernel
theorem dX10_text_111 : decode cX10_text 111 = .ok (.iastore, 1) := by decide +kernel
theorem dX10_text_112 : decode cX10_text 112 = .ok (.iinc 3 1, 3) := by decide +kernel
theorem dX10_text_115 : decode cX10_text 115 = .ok (.goto (-45), 3) := by decide +kernel
theorem dX10_text_118 : decode cX10_text 118 = .ok (.aload_n 0, 1) := by decide +kernel
theorem dX10_text_119 : decode cX10_text 119 = .ok (.getfield 7, 3) := by decide +kernel
theorem dX10_text_122 : decode cX10_text 122 = .ok (.iconst 2, 1) := by decide +kernel
theorem dX10_text_123 : decode cX10_text 123 = .ok (.iload_n 1, 1) := by decide +kernel
theorem dX10_text_124 : decode cX10_text 124 = .ok (.iastore, 1) := by decide +kernel
theorem dX10_text_125 : decode cX10_text 125 = .ok (.iconst 0, 1) := by decide +kernel
theorem dX10_text_126 : decode cX10_text 126 = .ok (.istore_n 3, 1) := by decide +kernel
theorem dX10_text_127 : decode cX10_text 127 = .ok (.iload_n 3, 1) := by decide +kernel
theorem dX10_text_128 : decode cX10_text 128 = .ok (.bipush 16, 2) := by decide +kernel
theorem dX10_text_130 : decode cX10_text 130 = .ok (.if_icmp .ge 20, 3) := by decide +kernel
theorem dX10_text_133 : decode cX10_text 133 = .ok (.aload_n 0, 1) := by decide +kernel
theorem dX10_text_134 : decode cX10_text 134 = .ok (.getfield 7, 3) := by decide +kernel
theorem dX10_text_137 : decode cX10_text 137 = .ok (.sipush 410, 3) := by decide +kernel
theorem dX10_text_140 : decode cX10_text 140 = .ok (.iload_n 3, 1) := by decide +kernel
theorem dX10_text_141 : decode cX10_text 141 = .ok (.iadd, 1) := by decide +kernel
theorem dX10_text_142 : decode cX10_text 142 = .ok (.iconst 0, 1) := by decide +kernel
theorem dX10_text_143 : decode cX10_text 143 = .ok (.iastore, 1) := by decide +kernel
theorem dX10_text_144 : decode cX10_text 144 = .ok (.iinc 3 1, 3) := by decide +kernel
theorem dX10_text_147 : decode cX10_text 147 = .ok (.goto (-20), 3) := by decide +kernel
theorem dX10_text_150 : decode cX10_text 150 = .ok (.aload_n 0, 1) := by decide +kernel
theorem dX10_text_151 : decode cX10_text 151 = .ok (.getfield 7, 3) := by decide +kernel
theorem dX10_text_154 : decode cX10_text 154 = .ok (.iconst 3, 1) := by decide +kernel
theorem dX10_text_155 : decode cX10_text 155 = .ok (.iconst 0, 1) := by decide +kernel
theorem dX10_text_156 : decode cX10_text 156 = .ok (.iastore, 1) := by decide +kernel
theorem dX10_text_157 : decode cX10_text 157 = .ok (.iload_n 1, 1) := by decide +kernel
theorem dX10_text_158 : decode cX10_text 158 = .ok (.ireturn, 1) := by decide +kernel
theorem dX10_next_0 : decode cX10_next 0 = .ok (.aload_n 0, 1) := by decide +kernel
theorem dX10_next_1 : decode cX10_next 1 = .ok (.getfield 253, 3) := by decide +kernel
theorem dX10_next_4 : decode cX10_next 4 = .ok (.aload_n 0, 1) := by decide +kernel
theorem dX10_next_5 : decode cX10_next 5 = .ok (.getfield 256, 3) := by decide +kernel
theorem dX10_next_8 : decode cX10_next 8 = .ok (.if_icmp .ge 15, 3) := by decide +kernel
theorem dX10_next_11 : decode cX10_next 11 = .ok (.aload_n 0, 1) := by decide +kernel
theorem dX10_next_12 : decode cX10_next 12 = .ok (.getfield 68, 3) := by decide +kernel
theorem dX10_next_15 : decode cX10_next 15 = .ok (.aload_n 0, 1) := by decide +kernel
theorem dX10_next_16 : decode cX10_next 16 = .ok (.getfield 253, 3) := by decide +kernel
theorem dX10_next_19 : decode cX10_next 19 = .ok (.iaload, 1) := by decide +kernel
theorem dX10_next_20 : decode cX10_next 20 = .ok (.goto 4, 3) := by decide +kernel
theorem dX10_next_23 : decode cX10_next 23 = .ok (.iconst (-1), 1) := by decide +kernel
theorem dX10_next_24 : decode cX10_next 24 = .ok (.ireturn, 1) := by decide +kernel
theorem dX10_isWrong_0 : decode cX10_isWrong 0 = .ok (.aload_n 0, 1) := by decide +kernel
theorem dX10_isWrong_1 : decode cX10_isWrong 1 = .ok (.iload_n 1, 1) := by decide +kernel
theorem dX10_isWrong_2 : decode cX10_isWrong 2 = .ok (.putfield 259, 3) := by decide +kernel
theorem dX10_isWrong_5 : decode cX10_isWrong 5 = .ok (.aload_n 0, 1) := by decide +kernel
theorem dX10_isWrong_6 : decode cX10_isWrong 6 = .ok (.iload_n 2, 1) := by decide +kernel
theorem dX10_isWrong_7 : decode cX10_isWrong 7 = .ok (.putfield 74, 3) := by decide +kernel
theorem dX10_isWrong_10 : decode cX10_isWrong 10 = .ok (.iconst 0, 1) := by decide +kernel
theorem dX10_isWrong_11 : decode cX10_isWrong 11 = .ok (.ireturn, 1) := by decide +kernel
theorem dX10_isName_0 : decode cX10_isName 0 = .ok (.iload_n 0, 1) := by decide +kernel
theorem dX10_isName_1 : decode cX10_isName 1 = .ok (.bipush 97, 2) := by decide +kernel
theorem dX10_isName_3 : decode cX10_isName 3 = .ok (.if_icmp .lt 13, 3) := by decide +kernel
theorem dX10_isName_6 : decode cX10_isName 6 = .ok (.iload_n 0, 1) := by decide +kernel
theorem dX10_isName_7 : decode cX10_isName 7 = .ok (.bipush 100, 2) := by decide +kernel
theorem dX10_isName_9 : decode cX10_isName 9 = .ok (.if_icmp .gt 7, 3) := by decide +kernel
theorem dX10_isName_12 : decode cX10_isName 12 = .ok (.iconst 1, 1) := by decide +kernel
theorem dX10_isName_13 : decode cX10_isName 13 = .ok (.goto 4, 3) := by decide +kernel
theorem dX10_isName_16 : decode cX10_isName 16 = .ok (.iconst 0, 1) := by decide +kernel
theorem dX10_isName_17 : decode cX10_isName 17 = .ok (.ireturn, 1) := by decide +kernel
theorem dX10_sortBy_0 : decode cX10_sortBy 0 = .ok (.iload_n 0, 1) := by decide +kernel
theorem dX10_sortBy_1 : decode cX10_sortBy 1 = .ok (.bipush 119, 2) := by decide +kernel
theorem dX10_sortBy_3 : decode cX10_sortBy 3 = .ok (.if_icmp .ne 7, 3) := by decide +kernel
theorem dX10_sortBy_6 : decode cX10_sortBy 6 = .ok (.iconst 0, 1) := by decide +kernel
theorem dX10_sortBy_7 : decode cX10_sortBy 7 = .ok (.goto 24, 3) := by decide +kernel
theorem dX10_sortBy_10 : decode cX10_sortBy 10 = .ok (.iload_n 0, 1) := by decide +kernel
theorem dX10_sortBy_11 : decode cX10_sortBy 11 = .ok (.bipush 110, 2) := by decide +kernel
theorem dX10_sortBy_13 : decode cX10_sortBy 13 = .ok (.if_icmp .ne 7, 3) := by decide +kernel
theorem dX10_sortBy_16 : decode cX10_sortBy 16 = .ok (.iconst 1, 1) := by decide +kernel
theorem dX10_sortBy_17 : decode cX10_sortBy 17 = .ok (.goto 14, 3) := by decide +kernel
theorem dX10_sortBy_20 : decode cX10_sortBy 20 = .ok (.iload_n 0, 1) := by decide +kernel
theorem dX10_sortBy_21 : decode cX10_sortBy 21 = .ok (.bipush 115, 2) := by decide +kernel
theorem dX10_sortBy_23 : decode cX10_sortBy 23 = .ok (.if_icmp .ne 7, 3) := by decide +kernel
theorem dX10_sortBy_26 : decode cX10_sortBy 26 = .ok (.iconst 2, 1) := by decide +kernel
theorem dX10_sortBy_27 : decode cX10_sortBy 27 = .ok (.goto 4, 3) := by decide +kernel
theorem dX10_sortBy_30 : decode cX10_sortBy 30 = .ok (.iconst (-1), 1) := by decide +kernel
theorem dX10_sortBy_31 : decode cX10_sortBy 31 = .ok (.ireturn, 1) := by decide +kernel
theorem dX10_come_0 : decode cX10_come 0 = .ok (.aload_n 0, 1) := by decide +kernel
theorem dX10_come_1 : decode cX10_come 1 = .ok (.getfield 71, 3) := by decide +kernel
theorem dX10_come_4 : decode cX10_come 4 = .ok (.iload_n 1, 1) := by decide +kernel
theorem dX10_come_5 : decode cX10_come 5 = .ok (.iload_n 2, 1) := by decide +kernel
theorem dX10_come_6 : decode cX10_come 6 = .ok (.iastore, 1) := by decide +kernel
theorem dX10_come_7 : decode cX10_come 7 = .ok (.aload_n 0, 1) := by decide +kernel
theorem dX10_come_8 : decode cX10_come 8 = .ok (.getfield 71, 3) := by decide +kernel
theorem dX10_come_11 : decode cX10_come 11 = .ok (.iload_n 1, 1) := by decide +kernel
theorem dX10_come_12 : decode cX10_come 12 = .ok (.iconst 1, 1) := by decide +kernel
theorem dX10_come_13 : decode cX10_come 13 = .ok (.iadd, 1) := by decide +kernel
theorem dX10_come_14 : decode cX10_come 14 = .ok (.iload_n 3, 1) := by decide +kernel
theorem dX10_come_15 : decode cX10_come 15 = .ok (.iastore, 1) := by decide +kernel
theorem dX10_come_16 : decode cX10_come 16 = .ok (.aload_n 0, 1) := by decide +kernel
theorem dX10_come_17 : decode cX10_come 17 = .ok (.getfield 71, 3) := by decide +kernel
theorem dX10_come_20 : decode cX10_come 20 = .ok (.iload_n 1, 1) := by decide +kernel
theorem dX10_come_21 : decode cX10_come 21 = .ok (.iconst 2, 1) := by decide +kernel
theorem dX10_come_22 : decode cX10_come 22 = .ok (.iadd, 1) := by decide +kernel
theorem dX10_come_23 : decode cX10_come 23 = .ok (.iload 4, 2) := by decide +kernel
theorem dX10_come_25 : decode cX10_come 25 = .ok (.iastore, 1) := by decide +kernel
theorem dX10_come_26 : decode cX10_come 26 = .ok (.return_, 1) := by decide +kernel
theorem dX10_readBytes_0 : decode cX10_readBytes 0 = .ok (.aload_n 0, 1) := by decide +kernel
theorem dX10_readBytes_1 : decode cX10_readBytes 1 = .ok (.getfield 253, 3) := by decide +kernel
theorem dX10_readBytes_4 : decode cX10_readBytes 4 = .ok (.istore_n 3, 1) := by decide +kernel
