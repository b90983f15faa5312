theorem dX10_finding_2 : decode cX10_finding 2 = .ok (.invokevirtual 329, 3) := by decide +kernel
theorem dX10_finding_5 : decode cX10_finding 5 = .ok (.ifCond .ne 5, 3) := by decide +kernel
theorem dX10_finding_8 : decode cX10_finding 8 = .ok (.iconst (-1), 1) := by decide +kernel
theorem dX10_finding_9 : decode cX10_finding 9 = .ok (.ireturn, 1) := by decide +kernel
theorem dX10_finding_10 : decode cX10_finding 10 = .ok (.iload_n 2, 1) := by decide +kernel
theorem dX10_finding_11 : decode cX10_finding 11 = .ok (.tableswitch 125 0 7 #[45, 52, 59, 66, 73, 80, 95, 110], 45) := by decide +kernel
theorem dX10_finding_56 : decode cX10_finding 56 = .ok (.aload_n 0, 1) := by decide +kernel
theorem dX10_finding_57 : decode cX10_finding 57 = .ok (.getfield 28, 3) := by decide +kernel
theorem dX10_finding_60 : decode cX10_finding 60 = .ok (.iload_n 1, 1) := by decide +kernel
theorem dX10_finding_61 : decode cX10_finding 61 = .ok (.iaload, 1) := by decide +kernel
theorem dX10_finding_62 : decode cX10_finding 62 = .ok (.ireturn, 1) := by decide +kernel
theorem dX10_finding_63 : decode cX10_finding 63 = .ok (.aload_n 0, 1) := by decide +kernel
theorem dX10_finding_64 : decode cX10_finding 64 = .ok (.getfield 31, 3) := by decide +kernel
theorem dX10_finding_67 : decode cX10_finding 67 = .ok (.iload_n 1, 1) := by decide +kernel
theorem dX10_finding_68 : decode cX10_finding 68 = .ok (.iaload, 1) := by decide +kernel
theorem dX10_finding_69 : decode cX10_finding 69 = .ok (.ireturn, 1) := by decide +kernel
theorem dX10_finding_70 : decode cX10_finding 70 = .ok (.aload_n 0, 1) := by decide +kernel
theorem dX10_finding_71 : decode cX10_finding 71 = .ok (.getfield 34, 3) := by decide +kernel
theorem dX10_finding_74 : decode cX10_finding 74 = .ok (.iload_n 1, 1) := by decide +kernel
theorem dX10_finding_75 : decode cX10_finding 75 = .ok (.iaload, 1) := by decide +kernel
theorem dX10_finding_76 : decode cX10_finding 76 = .ok (.ireturn, 1) := by decide +kernel
theorem dX10_finding_77 : decode cX10_finding 77 = .ok (.aload_n 0, 1) := by decide +kernel
theorem dX10_finding_78 : decode cX10_finding 78 = .ok (.getfield 40, 3) := by decide +kernel
theorem dX10_finding_81 : decode cX10_finding 81 = .ok (.iload_n 1, 1) := by decide +kernel
theorem dX10_finding_82 : decode cX10_finding 82 = .ok (.iaload, 1) := by decide +kernel
theorem dX10_finding_83 : decode cX10_finding 83 = .ok (.ireturn, 1) := by decide +kernel
theorem dX10_finding_84 : decode cX10_finding 84 = .ok (.aload_n 0, 1) := by decide +kernel
theorem dX10_finding_85 : decode cX10_finding 85 = .ok (.getfield 43, 3) := by decide +kernel
theorem dX10_finding_88 : decode cX10_finding 88 = .ok (.iload_n 1, 1) := by decide +kernel
theorem dX10_finding_89 : decode cX10_finding 89 = .ok (.iaload, 1) := by decide +kernel
theorem dX10_finding_90 : decode cX10_finding 90 = .ok (.ireturn, 1) := by decide +kernel
theorem dX10_finding_91 : decode cX10_finding 91 = .ok (.aload_n 0, 1) := by decide +kernel
theorem dX10_finding_92 : decode cX10_finding 92 = .ok (.getfield 46, 3) := by decide +kernel
theorem dX10_finding_95 : decode cX10_finding 95 = .ok (.iload_n 1, 1) := by decide +kernel
theorem dX10_finding_96 : decode cX10_finding 96 = .ok (.baload, 1) := by decide +kernel
theorem dX10_finding_97 : decode cX10_finding 97 = .ok (.ifCond .eq 7, 3) := by decide +kernel
theorem dX10_finding_100 : decode cX10_finding 100 = .ok (.iconst 1, 1) := by decide +kernel
theorem dX10_finding_101 : decode cX10_finding 101 = .ok (.goto 4, 3) := by decide +kernel
theorem dX10_finding_104 : decode cX10_finding 104 = .ok (.iconst 0, 1) := by decide +kernel
theorem dX10_finding_105 : decode cX10_finding 105 = .ok (.ireturn, 1) := by decide +kernel
theorem dX10_finding_106 : decode cX10_finding 106 = .ok (.aload_n 0, 1) := by decide +kernel
theorem dX10_finding_107 : decode cX10_finding 107 = .ok (.getfield 53, 3) := by decide +kernel
theorem dX10_finding_110 : decode cX10_finding 110 = .ok (.iload_n 1, 1) := by decide +kernel
theorem dX10_finding_111 : decode cX10_finding 111 = .ok (.baload, 1) := by decide +kernel
theorem dX10_finding_112 : decode cX10_finding 112 = .ok (.ifCond .eq 7, 3) := by decide +kernel
theorem dX10_finding_115 : decode cX10_finding 115 = .ok (.iconst 1, 1) := by decide +kernel
theorem dX10_finding_116 : decode cX10_finding 116 = .ok (.goto 4, 3) := by decide +kernel
theorem dX10_finding_119 : decode cX10_finding 119 = .ok (.iconst 0, 1) := by decide +kernel
theorem dX10_finding_120 : decode cX10_finding 120 = .ok (.ireturn, 1) := by decide +kernel
theorem dX10_finding_121 : decode cX10_finding 121 = .ok (.aload_n 0, 1) := by decide +kernel
theorem dX10_finding_122 : decode cX10_finding 122 = .ok (.getfield 50, 3) := by decide +kernel
theorem dX10_finding_125 : decode cX10_finding 125 = .ok (.iload_n 1, 1) := by decide +kernel
theorem dX10_finding_126 : decode cX10_finding 126 = .ok (.baload, 1) := by decide +kernel
theorem dX10_finding_127 : decode cX10_finding 127 = .ok (.ifCond .eq 7, 3) := by decide +kernel
theorem dX10_finding_130 : decode cX10_finding 130 = .ok (.iconst 1, 1) := by decide +kernel
theorem dX10_finding_131 : decode cX10_finding 131 = .ok (.goto 4, 3) := by decide +kernel
theorem dX10_finding_134 : decode cX10_finding 134 = .ok (.iconst 0, 1) := by decide +kernel
theorem dX10_finding_135 : decode cX10_finding 135 = .ok (.ireturn, 1) := by decide +kernel
theorem dX10_finding_136 : decode cX10_finding 136 = .ok (.iconst (-1), 1) := by decide +kernel
theorem dX10_finding_137 : decode cX10_finding 137 = .ok (.ireturn, 1) := by decide +kernel
theorem dX10_fresh_0 : decode cX10_fresh 0 = .ok (.aload_n 0, 1) := by decide +kernel
theorem dX10_fresh_1 : decode cX10_fresh 1 = .ok (.iload_n 1, 1) := by decide +kernel
theorem dX10_fresh_2 : decode cX10_fresh 2 = .ok (.invokevirtual 329, 3) := by decide +kernel
theorem dX10_fresh_5 : decode cX10_fresh 5 = .ok (.ifCond .eq 19, 3) := by decide +kernel
theorem dX10_fresh_8 : decode cX10_fresh 8 = .ok (.iload_n 2, 1) := by decide +kernel
theorem dX10_fresh_9 : decode cX10_fresh 9 = .ok (.iconst 0, 1) := by decide +kernel
theorem dX10_fresh_10 : decode cX10_fresh 10 = .ok (.aload_n 0, 1) := by decide +kernel
theorem dX10_fresh_11 : decode cX10_fresh 11 = .ok (.getfield 40, 3) := by decide +kernel
theorem dX10_fresh_14 : decode cX10_fresh 14 = .ok (.iload_n 1, 1) := by decide +kernel
theorem dX10_fresh_15 : decode cX10_fresh 15 = .ok (.iaload, 1) := by decide +kernel
theorem dX10_fresh_16 : decode cX10_fresh 16 = .ok (.iconst 1, 1) := by decide +kernel
theorem dX10_fresh_17 : decode cX10_fresh 17 = .ok (.isub, 1) := by decide +kernel
theorem dX10_fresh_18 : decode cX10_fresh 18 = .ok (.invokestatic 103, 3) := by decide +kernel
theorem dX10_fresh_21 : decode cX10_fresh 21 = .ok (.ifCond .ne 5, 3) := by decide +kernel
theorem dX10_fresh_24 : decode cX10_fresh 24 = .ok (.iconst (-1), 1) := by decide +kernel
theorem dX10_fresh_25 : decode cX10_fresh 25 = .ok (.ireturn, 1) := by decide +kernel
theorem dX10_fresh_26 : decode cX10_fresh 26 = .ok (.aload_n 0, 1) := by decide +kernel
theorem dX10_fresh_27 : decode cX10_fresh 27 = .ok (.aload_n 0, 1) := by decide +kernel
theorem dX10_fresh_28 : decode cX10_fresh 28 = .ok (.getfield 28, 3) := by decide +kernel
theorem dX10_fresh_31 : decode cX10_fresh 31 = .ok (.iload_n 1, 1) := by decide +kernel
theorem dX10_fresh_32 : decode cX10_fresh 32 = .ok (.iaload, 1) := by decide +kernel
theorem dX10_fresh_33 : decode cX10_fresh 33 = .ok (.aload_n 0, 1) := by decide +kernel
theorem dX10_fresh_34 : decode cX10_fresh 34 = .ok (.getfield 37, 3) := by decide +kernel
theorem dX10_fresh_37 : decode cX10_fresh 37 = .ok (.iload_n 1, 1) := by decide +kernel
theorem dX10_fresh_38 : decode cX10_fresh 38 = .ok (.iaload, 1) := by decide +kernel
theorem dX10_fresh_39 : decode cX10_fresh 39 = .ok (.invokevirtual 169, 3) := by decide +kernel
theorem dX10_fresh_42 : decode cX10_fresh 42 = .ok (.aload_n 0, 1) := by decide +kernel
theorem dX10_fresh_43 : decode cX10_fresh 43 = .ok (.getfield 25, 3) := by decide +kernel
theorem dX10_fresh_46 : decode cX10_fresh 46 = .ok (.iload_n 2, 1) := by decide +kernel
theorem dX10_fresh_47 : decode cX10_fresh 47 = .ok (.iaload, 1) := by decide +kernel
theorem dX10_fresh_48 : decode cX10_fresh 48 = .ok (.ireturn, 1) := by decide +kernel
theorem dX10_clashes_0 : decode cX10_clashes 0 = .ok (.aload_n 0, 1) := by decide +kernel
theorem dX10_clashes_1 : decode cX10_clashes 1 = .ok (.iload_n 1, 1) := by decide +kernel
theorem dX10_clashes_2 : decode cX10_clashes 2 = .ok (.invokevirtual 329, 3) := by decide +kernel
theorem dX10_clashes_5 : decode cX10_clashes 5 = .ok (.ifCond .ne 5, 3) := by decide +kernel
theorem dX10_clashes_8 : decode cX10_clashes 8 = .ok (.iconst (-1), 1) := by decide +kernel
theorem dX10_clashes_9 : decode cX10_clashes 9 = .ok (.ireturn, 1) := by decide +kernel
theorem dX10_clashes_10 : decode cX10_clashes 10 = .ok (.iconst 0, 1) := by decide +kernel
theorem dX10_clashes_11 : decode cX10_clashes 11 = .ok (.istore_n 2, 1) := by decide +kernel
theorem dX10_clashes_12 : decode cX10_clashes 12 = .ok (.iconst 0, 1) := by decide +kernel
theorem dX10_clashes_13 : decode cX10_clashes 13 = .ok (.istore_n 3, 1) := by decide +kernel
theorem dX10_clashes_14 : decode cX10_clashes 14 = .ok (.iload_n 3, 1) := by decide +kernel
theorem dX10_clashes_15 : decode cX10_clashes 15 = .ok (.aload_n 0, 1) := by decide +kernel
theorem dX10_clashes_16 : decode cX10_clashes 16 = .ok (.getfield 175, 3) := by decide +kernel
theorem dX10_clashes_19 : decode cX10_clashes 19 = .ok (.if_icmp .ge 40, 3) := by decide +kernel
theorem dX10_clashes_22 : decode cX10_clashes 22 = .ok (.iload_n 2, 1) := by decide +kernel
theorem dX10_clashes_23 : decode cX10_clashes 23 = .ok (.iload_n 3, 1) := by decide +kernel
theorem dX10_clashes_24 : decode cX10_clashes 24 = .ok (.iload_n 1, 1) := by decide +kernel
theorem dX10_clashes_25 : decode cX10_clashes 25 = .ok (.if_icmp .eq 25, 3) := by decide +kernel
theorem dX10_clashes_28 : decode cX10_clashes 28 = .ok (.aload_n 0, 1) := by decide +kernel
theorem dX10_clashes_29 : decode cX10_clashes 29 = .ok (.getfield 46, 3) := by decide +kernel
theorem dX10_clashes_32 : decode cX10_clashes 32 = .ok (.iload_n 3, 1) := by decide +kernel
theorem dX10_clashes_33 : decode cX10_clashes 33 = .ok (.baload, 1) := by decide +kernel
theorem dX10_clashes_34 : decode cX10_clashes 34 = .ok (.ifCond .ne 16, 3) := by decide +kernel
theorem dX10_clashes_37 : decode cX10_clashes 37 = .ok (.aload_n 0, 1) := by decide +kernel
theorem dX10_clashes_38 : decode cX10_clashes 38 = .ok (.iload_n 3, 1) := by decide +kernel
theorem dX10_clashes_39 : decode cX10_clashes 39 = .ok (.iload_n 1, 1) := by decide +kernel
theorem dX10_clashes_40 : decode cX10_clashes 40 = .ok (.invokevirtual 178, 3) := by decide +kernel
theorem dX10_clashes_43 : decode cX10_clashes 43 = .ok (.ifCond .eq 7, 3) := by decide +kernel
theorem dX10_clashes_46 : decode cX10_clashes 46 = .ok (.iconst 1, 1) := by decide +kernel
theorem dX10_clashes_47 : decode cX10_clashes 47 = .ok (.goto 4, 3) := by decide +kernel
theorem dX10_clashes_50 : decode cX10_clashes 50 = .ok (.iconst 0, 1) := by decide +kernel
theorem dX10_clashes_51 : decode cX10_clashes 51 = .ok (.iadd, 1) := by decide +kernel
theorem dX10_clashes_52 : decode cX10_clashes 52 = .ok (.istore_n 2, 1) := by decide +kernel
theorem dX10_clashes_53 : decode cX10_clashes 53 = .ok (.iinc 3 1, 3) := by decide +kernel
theorem dX10_clashes_56 : decode cX10_clashes 56 = .ok (.goto (-42), 3) := by decide +kernel
theorem dX10_clashes_59 : decode cX10_clashes 59 = .ok (.iload_n 2, 1) := by decide +kernel
theorem dX10_clashes_60 : decode cX10_clashes 60 = .ok (.ireturn, 1) := by decide +kernel
theorem dX10_set_0 : decode cX10_set 0 = .ok (.aload_n 0, 1) := by decide +kernel
theorem dX10_set_1 : decode cX10_set 1 = .ok (.invokevirtual 229, 3) := by decide +kernel
theorem dX10_set_4 : decode cX10_set 4 = .ok (.iload_n 1, 1) := by decide +kernel
theorem dX10_set_5 : decode cX10_set 5 = .ok (.iconst (-1), 1) := by decide +kernel
theorem dX10_set_6 : decode cX10_set 6 = .ok (.if_icmp .ne 8, 3) := by decide +kernel
theorem dX10_set_9 : decode cX10_set 9 = .ok (.aload_n 0, 1) := by decide +kernel
theorem dX10_set_10 : decode cX10_set 10 = .ok (.getfield 211, 3) := by decide +kernel
theorem dX10_set_13 : decode cX10_set 13 = .ok (.ireturn, 1) := by decide +kernel
theorem dX10_set_14 : decode cX10_set 14 = .ok (.iconst 0, 1) := by decide +kernel
theorem dX10_set_15 : decode cX10_set 15 = .ok (.istore_n 2, 1) := by decide +kernel
theorem dX10_set_16 : decode cX10_set 16 = .ok (.iconst 0, 1) := by decide +kernel
theorem dX10_set_17 : decode cX10_set 17 = .ok (.istore_n 3, 1) := by decide +kernel
theorem dX10_set_18 : decode cX10_set 18 = .ok (.iload_n 3, 1) := by decide +kernel
theorem dX10_set_19 : decode cX10_set 19 = .ok (.aload_n 0, 1) := by decide +kernel
theorem dX10_set_20 : decode cX10_set 20 = .ok (.getfield 175, 3) := by decide +kernel
theorem dX10_set_23 : decode cX10_set 23 = .ok (.if_icmp .ge 31, 3) := by decide +kernel
theorem dX10_set_26 : decode cX10_set 26 = .ok (.aload_n 0, 1) := by decide +kernel
theorem dX10_set_27 : decode cX10_set 27 = .ok (.getfield 53, 3) := by decide +kernel
theorem dX10_set_30 : decode cX10_set 30 = .ok (.iload_n 3, 1) := by decide +kernel
theorem dX10_set_31 : decode cX10_set 31 = .ok (.baload, 1) := by decide +kernel
theorem dX10_set_32 : decode cX10_set 32 = .ok (.ifCond .ne 6, 3) := by decide +kernel
theorem dX10_set_35 : decode cX10_set 35 = .ok (.goto 13, 3) := by decide +kernel
theorem dX10_set_38 : decode cX10_set 38 = .ok (.iload_n 2, 1) := by decide +kernel
theorem dX10_set_39 : decode cX10_set 39 = .ok (.iload_n 1, 1) := by decide +kernel
theorem dX10_set_40 : decode cX10_set 40 = .ok (.if_icmp .ne 5, 3) := by decide +kernel
theorem dX10_set_43 : decode cX10_set 43 = .ok (.iload_n 3, 1) := by decide +kernel
theorem dX10_set_44 : decode cX10_set 44 = .ok (.ireturn, 1) := by decide +kernel
theorem dX10_set_45 : decode cX10_set 45 = .ok (.iinc 2 1, 3) := by decide +kernel
theorem dX10_set_48 : decode cX10_set 48 = .ok (.iinc 3 1, 3) := by decide +kernel
theorem dX10_set_51 : decode cX10_set 51 = .ok (.goto (-33), 3) := by decide +kernel
theorem dX10_set_54 : decode cX10_set 54 = .ok (.iconst (-1), 1) := by decide +kernel
theorem dX10_set_55 : decode cX10_set 55 = .ok (.ireturn, 1) := by decide +kernel
theorem dX10_worth_0 : decode cX10_worth 0 = .ok (.aload_n 0, 1) := by decide +kernel
theorem dX10_worth_1 : decode cX10_worth 1 = .ok (.invokevirtual 229, 3) := by decide +kernel
theorem dX10_worth_4 : decode cX10_worth 4 = .ok (.aload_n 0, 1) := by decide +kernel
theorem dX10_worth_5 : decode cX10_worth 5 = .ok (.getfield 208, 3) := by decide +kernel
theorem dX10_worth_8 : decode cX10_worth 8 = .ok (.ireturn, 1) := by decide +kernel
theorem dX10_chosen_0 : decode cX10_chosen 0 = .ok (.aload_n 0, 1) := by decide +kernel
theorem dX10_chosen_1 : decode cX10_chosen 1 = .ok (.iload_n 1, 1) := by decide +kernel
theorem dX10_chosen_2 : decode cX10_chosen 2 = .ok (.invokevirtual 317, 3) := by decide +kernel
theorem dX10_chosen_5 : decode cX10_chosen 5 = .ok (.ifCond .ne 5, 3) := by decide +kernel
theorem dX10_chosen_8 : decode cX10_chosen 8 = .ok (.iconst (-1), 1) := by decide +kernel
theorem dX10_chosen_9 : decode cX10_chosen 9 = .ok (.ireturn, 1) := by decide +kernel
theorem dX10_chosen_10 : decode cX10_chosen 10 = .ok (.aload_n 0, 1) := by decide +kernel
theorem dX10_chosen_11 : decode cX10_chosen 11 = .ok (.invokevirtual 229, 3) := by decide +kernel
theorem dX10_chosen_14 : decode cX10_chosen 14 = .ok (.iconst 0, 1) := by decide +kernel
theorem dX10_chosen_15 : decode cX10_chosen 15 = .ok (.istore_n 2, 1) := by decide +kernel
theorem dX10_chosen_16 : decode cX10_chosen 16 = .ok (.iconst 0, 1) := by decide +kernel
theorem dX10_chosen_17 : decode cX10_chosen 17 = .ok (.istore_n 3, 1) := by decide +kernel
theorem dX10_chosen_18 : decode cX10_chosen 18 = .ok (.iload_n 3, 1) := by decide +kernel
theorem dX10_chosen_19 : decode cX10_chosen 19 = .ok (.aload_n 0, 1) := by decide +kernel
theorem dX10_chosen_20 : decode cX10_chosen 20 = .ok (.getfield 175, 3) := by decide +kernel
theorem dX10_chosen_23 : decode cX10_chosen 23 = .ok (.if_icmp .ge 36, 3) := by decide +kernel
theorem dX10_chosen_26 : decode cX10_chosen 26 = .ok (.iload_n 2, 1) := by decide +kernel
theorem dX10_chosen_27 : decode cX10_chosen 27 = .ok (.aload_n 0, 1) := by decide +kernel
theorem dX10_chosen_28 : decode cX10_chosen 28 = .ok (.getfield 53, 3) := by decide +kernel
theorem dX10_chosen_31 : decode cX10_chosen 31 = .ok (.iload_n 3, 1) := by decide +kernel
theorem dX10_chosen_32 : decode cX10_chosen 32 = .ok (.baload, 1) := by decide +kernel
theorem dX10_chosen_33 : decode cX10_chosen 33 = .ok (.ifCond .eq 17, 3) := by decide +kernel
theorem dX10_chosen_36 : decode cX10_chosen 36 = .ok (.aload_n 0, 1) := by decide +kernel
theorem dX10_chosen_37 : decode cX10_chosen 37 = .ok (.getfield 28, 3) := by decide +kernel
theorem dX10_chosen_40 : decode cX10_chosen 40 = .ok (.iload_n 3, 1) := by decide +kernel
theorem dX10_chosen_41 : decode cX10_chosen 41 = .ok (.iaload, 1) := by decide +kernel
theorem dX10_chosen_42 : decode cX10_chosen 42 = .ok (.iload_n 1, 1) := by decide +kernel
theorem dX10_chosen_43 : decode cX10_chosen 43 = .ok (.if_icmp .ne 7, 3) := by decide +kernel
theorem dX10_chosen_46 : decode cX10_chosen 46 = .ok (.iconst 1, 1) := by decide +kernel
theorem dX10_chosen_47 : decode cX10_chosen 47 = .ok (.goto 4, 3) := by decide +kernel
theorem dX10_chosen_50 : decode cX10_chosen 50 = .ok (.iconst 0, 1) := by decide +kernel
theorem dX10_chosen_51 : decode cX10_chosen 51 = .ok (.iadd, 1) := by decide +kernel
theorem dX10_chosen_52 : decode cX10_chosen 52 = .ok (.istore_n 2, 1) := by decide +kernel
theorem dX10_chosen_53 : decode cX10_chosen 53 = .ok (.iinc 3 1, 3) := by decide +kernel
theorem dX10_chosen_56 : decode cX10_chosen 56 = .ok (.goto (-38), 3) := by decide +kernel
theorem dX10_chosen_59 : decode cX10_chosen 59 = .ok (.iload_n 2, 1) := by decide +kernel
theorem dX10_chosen_60 : decode cX10_chosen 60 = .ok (.ireturn, 1) := by decide +kernel
theorem dX10_without_0 : decode cX10_without 0 = .ok (.aload_n 0, 1) := by decide +kernel
theorem dX10_without_1 : decode cX10_without 1 = .ok (.iload_n 1, 1) := by decide +kernel
theorem dX10_without_2 : decode cX10_without 2 = .ok (.invokevirtual 317, 3) := by decide +kernel
theorem dX10_without_5 : decode cX10_without 5 = .ok (.ifCond .ne 5, 3) := by decide +kernel
theorem dX10_without_8 : decode cX10_without 8 = .ok (.iconst (-1), 1) := by decide +kernel
theorem dX10_without_9 : decode cX10_without 9 = .ok (.ireturn, 1) := by decide +kernel
theorem dX10_without_10 : decode cX10_without 10 = .ok (.aload_n 0, 1) := by decide +kernel
theorem dX10_without_11 : decode cX10_without 11 = .ok (.iload_n 1, 1) := by decide +kernel
theorem dX10_without_12 : decode cX10_without 12 = .ok (.iconst 1, 1) := by decide +kernel
theorem dX10_without_13 : decode cX10_without 13 = .ok (.invokevirtual 127, 3) := by decide +kernel
theorem dX10_without_16 : decode cX10_without 16 = .ok (.istore_n 2, 1) := by decide +kernel
theorem dX10_without_17 : decode cX10_without 17 = .ok (.aload_n 0, 1) := by decide +kernel
theorem dX10_without_18 : decode cX10_without 18 = .ok (.getfield 7, 3) := by decide +kernel
theorem dX10_without_21 : decode cX10_without 21 = .ok (.sipush 514, 3) := by decide +kernel
theorem dX10_without_24 : decode cX10_without 24 = .ok (.bipush 40, 2) := by decide +kernel
theorem dX10_without_26 : decode cX10_without 26 = .ok (.iload_n 1, 1) := by decide +kernel
theorem dX10_without_27 : decode cX10_without 27 = .ok (.imul, 1) := by decide +kernel
theorem dX10_without_28 : decode cX10_without 28 = .ok (.iadd, 1) := by decide +kernel
theorem dX10_without_29 : decode cX10_without 29 = .ok (.iconst 1, 1) := by decide +kernel
theorem dX10_without_30 : decode cX10_without 30 = .ok (.iadd, 1) := by decide +kernel
theorem dX10_without_31 : decode cX10_without 31 = .ok (.iconst 0, 1) := by decide +kernel
theorem dX10_without_32 : decode cX10_without 32 = .ok (.iastore, 1) := by decide +kernel
theorem dX10_without_33 : decode cX10_without 33 = .ok (.aload_n 0, 1) := by decide +kernel
theorem dX10_without_34 : decode cX10_without 34 = .ok (.invokevirtual 229, 3) := by decide +kernel
theorem dX10_without_37 : decode cX10_without 37 = .ok (.aload_n 0, 1) := by decide +kernel
theorem dX10_without_38 : decode cX10_without 38 = .ok (.getfield 7, 3) := by decide +kernel
theorem dX10_without_41 : decode cX10_without 41 = .ok (.sipush 514, 3) := by decide +kernel
theorem dX10_without_44 : decode cX10_without 44 = .ok (.bipush 40, 2) := by decide +kernel
theorem dX10_without_46 : decode cX10_without 46 = .ok (.iload_n 1, 1) := by decide +kernel
theorem dX10_without_47 : decode cX10_without 47 = .ok (.imul, 1) := by decide +kernel
theorem dX10_without_48 : decode cX10_without 48 = .ok (.iadd, 1) := by decide +kernel
theorem dX10_without_49 : decode cX10_without 49 = .ok (.iconst 1, 1) := by decide +kernel
theorem dX10_without_50 : decode cX10_without 50 = .ok (.iadd, 1) := by decide +kernel
theorem dX10_without_51 : decode cX10_without 51 = .ok (.iload_n 2, 1) := by decide +kernel
theorem dX10_without_52 : decode cX10_without 52 = .ok (.iastore, 1) := by decide +kernel
theorem dX10_without_53 : decode cX10_without 53 = .ok (.aload_n 0, 1) := by decide +kernel
theorem dX10_without_54 : decode cX10_without 54 = .ok (.getfield 208, 3) := by decide +kernel
theorem dX10_without_57 : decode cX10_without 57 = .ok (.ireturn, 1) := by decide +kernel
theorem dX10_span_0 : decode cX10_span 0 = .ok (.aload_n 0, 1) := by decide +kernel
theorem dX10_span_1 : decode cX10_span 1 = .ok (.iload_n 1, 1) := by decide +kernel
theorem dX10_span_2 : decode cX10_span 2 = .ok (.iload_n 2, 1) := by decide +kernel
theorem dX10_span_3 : decode cX10_span 3 = .ok (.invokevirtual 357, 3) := by decide +kernel
theorem dX10_span_6 : decode cX10_span 6 = .ok (.ifCond .ne 5, 3) := by decide +kernel
theorem dX10_span_9 : decode cX10_span 9 = .ok (.iconst (-1), 1) := by decide +kernel
theorem dX10_span_10 : decode cX10_span 10 = .ok (.ireturn, 1) := by decide +kernel
theorem dX10_span_11 : decode cX10_span 11 = .ok (.iload_n 2, 1) := by decide +kernel
theorem dX10_span_12 : decode cX10_span 12 = .ok (.aload_n 0, 1) := by decide +kernel
theorem dX10_span_13 : decode cX10_span 13 = .ok (.iload_n 1, 1) := by decide +kernel
theorem dX10_span_14 : decode cX10_span 14 = .ok (.iconst 2, 1) := by decide +kernel
theorem dX10_span_15 : decode cX10_span 15 = .ok (.invokevirtual 127, 3) := by decide +kernel
theorem dX10_span_18 : decode cX10_span 18 = .ok (.iadd, 1) := by decide +kernel
theorem dX10_span_19 : decode cX10_span 19 = .ok (.iconst 1, 1) := by decide +kernel
theorem dX10_span_20 : decode cX10_span 20 = .ok (.isub, 1) := by decide +kernel
theorem dX10_span_21 : decode cX10_span 21 = .ok (.istore_n 3, 1) := by decide +kernel
theorem dX10_span_22 : decode cX10_span 22 = .ok (.aload_n 0, 1) := by decide +kernel
theorem dX10_span_23 : decode cX10_span 23 = .ok (.getfield 16, 3) := by decide +kernel
theorem dX10_span_26 : decode cX10_span 26 = .ok (.iload_n 3, 1) := by decide +kernel
theorem dX10_span_27 : decode cX10_span 27 = .ok (.iaload, 1) := by decide +kernel
theorem dX10_span_28 : decode cX10_span 28 = .ok (.aload_n 0, 1) := by decide +kernel
theorem dX10_span_29 : decode cX10_span 29 = .ok (.getfield 19, 3) := by decide +kernel
theorem dX10_span_32 : decode cX10_span 32 = .ok (.iload_n 3, 1) := by decide +kernel
theorem dX10_span_33 : decode cX10_span 33 = .ok (.iaload, 1) := by decide +kernel
theorem dX10_span_34 : decode cX10_span 34 = .ok (.iadd, 1) := by decide +kernel
theorem dX10_span_35 : decode cX10_span 35 = .ok (.aload_n 0, 1) := by decide +kernel
theorem dX10_span_36 : decode cX10_span 36 = .ok (.getfield 16, 3) := by decide +kernel
theorem dX10_span_39 : decode cX10_span 39 = .ok (.iload_n 2, 1) := by decide +kernel
theorem dX10_span_40 : decode cX10_span 40 = .ok (.iaload, 1) := by decide +kernel
theorem dX10_span_41 : decode cX10_span 41 = .ok (.isub, 1) := by decide +kernel
theorem dX10_span_42 : decode cX10_span 42 = .ok (.ireturn, 1) := by decide +kernel
theorem dX10_silenced_0 : decode cX10_silenced 0 = .ok (.iload_n 1, 1) := by decide +kernel
theorem dX10_silenced_1 : decode cX10_silenced 1 = .ok (.iconst 0, 1) := by decide +kernel
theorem dX10_silenced_2 : decode cX10_silenced 2 = .ok (.aload_n 0, 1) := by decide +kernel
theorem dX10_silenced_3 : decode cX10_silenced 3 = .ok (.getfield 7, 3) := by decide +kernel
theorem dX10_silenced_6 : decode cX10_silenced 6 = .ok (.iconst 3, 1) := by decide +kernel
theorem dX10_silenced_7 : decode cX10_silenced 7 = .ok (.iaload, 1) := by decide +kernel
theorem dX10_silenced_8 : decode cX10_silenced 8 = .ok (.iconst 1, 1) := by decide +kernel
theorem dX10_silenced_9 : decode cX10_silenced 9 = .ok (.isub, 1) := by decide +kernel
theorem dX10_silenced_10 : decode cX10_silenced 10 = .ok (.invokestatic 103, 3) := by decide +kernel
theorem dX10_silenced_13 : decode cX10_silenced 13 = .ok (.ifCond .eq 29, 3) := by decide +kernel
theorem dX10_silenced_16 : decode cX10_silenced 16 = .ok (.iload_n 2, 1) := by decide +kernel
theorem dX10_silenced_17 : decode cX10_silenced 17 = .ok (.iconst 0, 1) := by decide +kernel
theorem dX10_silenced_18 : decode cX10_silenced 18 = .ok (.iconst 1, 1) := by decide +kernel
theorem dX10_silenced_19 : decode cX10_silenced 19 = .ok (.invokestatic 103, 3) := by decide +kernel
theorem dX10_silenced_22 : decode cX10_silenced 22 = .ok (.ifCond .eq 20, 3) := by decide +kernel
theorem dX10_silenced_25 : decode cX10_silenced 25 = .ok (.aload_n 0, 1) := by decide +kernel
theorem dX10_silenced_26 : decode cX10_silenced 26 = .ok (.getfield 7, 3) := by decide +kernel
theorem dX10_silenced_29 : decode cX10_silenced 29 = .ok (.sipush 410, 3) := by decide +kernel
theorem dX10_silenced_32 : decode cX10_silenced 32 = .ok (.iconst 2, 1) := by decide +kernel
theorem dX10_silenced_33 : decode cX10_silenced 33 = .ok (.iload_n 1, 1) := by decide +kernel
theorem dX10_silenced_34 : decode cX10_silenced 34 = .ok (.imul, 1) := by decide +kernel
theorem dX10_silenced_35 : decode cX10_silenced 35 = .ok (.iadd, 1) := by decide +kernel
theorem dX10_silenced_36 : decode cX10_silenced 36 = .ok (.iload_n 2, 1) := by decide +kernel
theorem dX10_silenced_37 : decode cX10_silenced 37 = .ok (.iadd, 1) := by decide +kernel
theorem dX10_silenced_38 : decode cX10_silenced 38 = .ok (.iaload, 1) := by decide +kernel
theorem dX10_silenced_39 : decode cX10_silenced 39 = .ok (.goto 4, 3) := by decide +kernel
theorem dX10_silenced_42 : decode cX10_silenced 42 = .ok (.iconst (-1), 1) := by decide +kernel
theorem dX10_silenced_43 : decode cX10_silenced 43 = .ok (.ireturn, 1) := by decide +kernel
theorem dX10_isSilent_0 : decode cX10_isSilent 0 = .ok (.aload_n 0, 1) := by decide +kernel
theorem dX10_isSilent_1 : decode cX10_isSilent 1 = .ok (.iload_n 1, 1) := by decide +kernel
theorem dX10_isSilent_2 : decode cX10_isSilent 2 = .ok (.invokevirtual 323, 3) := by decide +kernel
theorem dX10_isSilent_5 : decode cX10_isSilent 5 = .ok (.ifCond .eq 18, 3) := by decide +kernel
theorem dX10_isSilent_8 : decode cX10_isSilent 8 = .ok (.aload_n 0, 1) := by decide +kernel
theorem dX10_isSilent_9 : decode cX10_isSilent 9 = .ok (.iload_n 1, 1) := by decide +kernel
theorem dX10_isSilent_10 : decode cX10_isSilent 10 = .ok (.iload_n 1, 1) := by decide +kernel
theorem dX10_isSilent_11 : decode cX10_isSilent 11 = .ok (.iconst 1, 1) := by decide +kernel
theorem dX10_isSilent_12 : decode cX10_isSilent 12 = .ok (.iadd, 1) := by decide +kernel
theorem dX10_isSilent_13 : decode cX10_isSilent 13 = .ok (.invokevirtual 193, 3) := by decide +kernel
theorem dX10_isSilent_16 : decode cX10_isSilent 16 = .ok (.ifCond .eq 7, 3) := by decide +kernel
theorem dX10_isSilent_19 : decode cX10_isSilent 19 = .ok (.iconst 1, 1) := by decide +kernel
theorem dX10_isSilent_20 : decode cX10_isSilent 20 = .ok (.goto 4, 3) := by decide +kernel
theorem dX10_isSilent_23 : decode cX10_isSilent 23 = .ok (.iconst 0, 1) := by decide +kernel
theorem dX10_isSilent_24 : decode cX10_isSilent 24 = .ok (.ireturn, 1) := by decide +kernel
theorem dX10_yielding_0 : decode cX10_yielding 0 = .ok (.iload_n 1, 1) := by decide +kernel
theorem dX10_yielding_1 : decode cX10_yielding 1 = .ok (.iconst 0, 1) := by decide +kernel
theorem dX10_yielding_2 : decode cX10_yielding 2 = .ok (.aload_n 0, 1) := by decide +kernel
theorem dX10_yielding_3 : decode cX10_yielding 3 = .ok (.getfield 7, 3) := by decide +kernel
theorem dX10_yielding_6 : decode cX10_yielding 6 = .ok (.bipush 7, 2) := by decide +kernel
theorem dX10_yielding_8 : decode cX10_yielding 8 = .ok (.iaload, 1) := by decide +kernel
theorem dX10_yielding_9 : decode cX10_yielding 9 = .ok (.iconst 1, 1) := by decide +kernel
theorem dX10_yielding_10 : decode cX10_yielding 10 = .ok (.isub, 1) := by decide +kernel
theorem dX10_yielding_11 : decode cX10_yielding 11 = .ok (.invokestatic 103, 3) := by decide +kernel
theorem dX10_yielding_14 : decode cX10_yielding 14 = .ok (.ifCond .eq 36, 3) := by decide +kernel
theorem dX10_yielding_17 : decode cX10_yielding 17 = .ok (.bipush 10, 2) := by decide +kernel
theorem dX10_yielding_19 : decode cX10_yielding 19 = .ok (.aload_n 0, 1) := by decide +kernel
theorem dX10_yielding_20 : decode cX10_yielding 20 = .ok (.getfield 7, 3) := by decide +kernel
theorem dX10_yielding_23 : decode cX10_yielding 23 = .ok (.sipush 426, 3) := by decide +kernel
theorem dX10_yielding_26 : decode cX10_yielding 26 = .ok (.iconst 2, 1) := by decide +kernel
theorem dX10_yielding_27 : decode cX10_yielding 27 = .ok (.iload_n 1, 1) := by decide +kernel
theorem dX10_yielding_28 : decode cX10_yielding 28 = .ok (.imul, 1) := by decide +kernel
theorem dX10_yielding_29 : decode cX10_yielding 29 = .ok (.iadd, 1) := by decide +kernel
theorem dX10_yielding_30 : decode cX10_yielding 30 = .ok (.iaload, 1) := by decide +kernel
theorem dX10_yielding_31 : decode cX10_yielding 31 = .ok (.imul, 1) := by decide +kernel
theorem dX10_yielding_32 : decode cX10_yielding 32 = .ok (.aload_n 0, 1) := by decide +kernel
theorem dX10_yielding_33 : decode cX10_yielding 33 = .ok (.getfield 7, 3) := by decide +kernel
theorem dX10_yielding_36 : decode cX10_yielding 36 = .ok (.sipush 426, 3) := by decide +kernel
theorem dX10_yielding_39 : decode cX10_yielding 39 = .ok (.iconst 2, 1) := by decide +kernel
theorem dX10_yielding_40 : decode cX10_yielding 40 = .ok (.iload_n 1, 1) := by decide +kernel
theorem dX10_yielding_41 : decode cX10_yielding 41 = .ok (.imul, 1) := by decide +kernel
theorem dX10_yielding_42 : decode cX10_yielding 42 = .ok (.iadd, 1) := by decide +kernel
theorem dX10_yielding_43 : decode cX10_yielding 43 = .ok (.iconst 1, 1) := by decide +kernel
theorem dX10_yielding_44 : decode cX10_yielding 44 = .ok (.iadd, 1) := by decide +kernel
theorem dX10_yielding_45 : decode cX10_yielding 45 = .ok (.iaload, 1) := by decide +kernel
theorem dX10_yielding_46 : decode cX10_yielding 46 = .ok (.iadd, 1) := by decide +kernel
theorem dX10_yielding_47 : decode cX10_yielding 47 = .ok (.goto 4, 3) := by decide +kernel
theorem dX10_yielding_50 : decode cX10_yielding 50 = .ok (.iconst (-1), 1) := by decide +kernel
theorem dX10_yielding_51 : decode cX10_yielding 51 = .ok (.ireturn, 1) := by decide +kernel
theorem dX10_paint_0 : decode cX10_paint 0 = .ok (.aload_n 0, 1) := by decide +kernel
theorem dX10_paint_1 : decode cX10_paint 1 = .ok (.iload_n 1, 1) := by decide +kernel
theorem dX10_paint_2 : decode cX10_paint 2 = .ok (.invokevirtual 323, 3) := by decide +kernel
theorem dX10_paint_5 : decode cX10_paint 5 = .ok (.ifCond .eq 18, 3) := by decide +kernel
theorem dX10_paint_8 : decode cX10_paint 8 = .ok (.aload_n 0, 1) := by decide +kernel
theorem dX10_paint_9 : decode cX10_paint 9 = .ok (.getfield 7, 3) := by decide +kernel
theorem dX10_paint_12 : decode cX10_paint 12 = .ok (.sipush 210, 3) := by decide +kernel
theorem dX10_paint_15 : decode cX10_paint 15 = .ok (.iload_n 1, 1) := by decide +kernel
theorem dX10_paint_16 : decode cX10_paint 16 = .ok (.iadd, 1) := by decide +kernel
theorem dX10_paint_17 : decode cX10_paint 17 = .ok (.iaload, 1) := by decide +kernel
theorem dX10_paint_18 : decode cX10_paint 18 = .ok (.iconst 1, 1) := by decide +kernel
theorem dX10_paint_19 : decode cX10_paint 19 = .ok (.isub, 1) := by decide +kernel
theorem dX10_paint_20 : decode cX10_paint 20 = .ok (.goto 4, 3) := by decide +kernel
theorem dX10_paint_23 : decode cX10_paint 23 = .ok (.iconst (-1), 1) := by decide +kernel
theorem dX10_paint_24 : decode cX10_paint 24 = .ok (.ireturn, 1) := by decide +kernel
theorem dX10_painted_0 : decode cX10_painted 0 = .ok (.aload_n 0, 1) := by decide +kernel
theorem dX10_painted_1 : decode cX10_painted 1 = .ok (.iload_n 1, 1) := by decide +kernel
theorem dX10_painted_2 : decode cX10_painted 2 = .ok (.invokevirtual 317, 3) := by decide +kernel
theorem dX10_painted_5 : decode cX10_painted 5 = .ok (.ifCond .ne 5, 3) := by decide +kernel
theorem dX10_painted_8 : decode cX10_painted 8 = .ok (.iconst (-1), 1) := by decide +kernel
theorem dX10_painted_9 : decode cX10_painted 9 = .ok (.ireturn, 1) := by decide +kernel
theorem dX10_painted_10 : decode cX10_painted 10 = .ok (.iconst 0, 1) := by decide +kernel
theorem dX10_painted_11 : decode cX10_painted 11 = .ok (.istore_n 2, 1) := by decide +kernel
theorem dX10_painted_12 : decode cX10_painted 12 = .ok (.iconst 0, 1) := by decide +kernel
theorem dX10_painted_13 : decode cX10_painted 13 = .ok (.istore_n 3, 1) := by decide +kernel
theorem dX10_painted_14 : decode cX10_painted 14 = .ok (.iload_n 3, 1) := by decide +kernel
theorem dX10_painted_15 : decode cX10_painted 15 = .ok (.aload_n 0, 1) := by decide +kernel
theorem dX10_painted_16 : decode cX10_painted 16 = .ok (.getfield 7, 3) := by decide +kernel
theorem dX10_painted_19 : decode cX10_painted 19 = .ok (.iconst 2, 1) := by decide +kernel
theorem dX10_painted_20 : decode cX10_painted 20 = .ok (.iaload, 1) := by decide +kernel
theorem dX10_painted_21 : decode cX10_painted 21 = .ok (.if_icmp .ge 33, 3) := by decide +kernel
theorem dX10_painted_24 : decode cX10_painted 24 = .ok (.iload_n 2, 1) := by decide +kernel
theorem dX10_painted_25 : decode cX10_painted 25 = .ok (.aload_n 0, 1) := by decide +kernel
theorem dX10_painted_26 : decode cX10_painted 26 = .ok (.getfield 7, 3) := by decide +kernel
theorem dX10_painted_29 : decode cX10_painted 29 = .ok (.sipush 210, 3) := by decide +kernel
theorem dX10_painted_32 : decode cX10_painted 32 = .ok (.iload_n 3, 1) := by decide +kernel
theorem dX10_painted_33 : decode cX10_painted 33 = .ok (.iadd, 1) := by decide +kernel
theorem dX10_painted_34 : decode cX10_painted 34 = .ok (.iaload, 1) := by decide +kernel
theorem dX10_painted_35 : decode cX10_painted 35 = .ok (.iload_n 1, 1) := by decide +kernel
theorem dX10_painted_36 : decode cX10_painted 36 = .ok (.iconst 1, 1) := by decide +kernel
theorem dX10_painted_37 : decode cX10_painted 37 = .ok (.iadd, 1) := by decide +kernel
theorem dX10_painted_38 : decode cX10_painted 38 = .ok (.if_icmp .ne 7, 3) := by decide +kernel
theorem dX10_painted_41 : decode cX10_painted 41 = .ok (.iconst 1, 1) := by decide +kernel
theorem dX10_painted_42 : decode cX10_painted 42 = .ok (.goto 4, 3) := by decide +kernel
theorem dX10_painted_45 : decode cX10_painted 45 = .ok (.iconst 0, 1) := by decide +kernel
theorem dX10_painted_46 : decode cX10_painted 46 = .ok (.iadd, 1) := by decide +kernel
theorem dX10_painted_47 : decode cX10_painted 47 = .ok (.istore_n 2, 1) := by decide +kernel
theorem dX10_painted_48 : decode cX10_painted 48 = .ok (.iinc 3 1, 3) := by decide +kernel
theorem dX10_painted_51 : decode cX10_painted 51 = .ok (.goto (-37), 3) := by decide +kernel
theorem dX10_painted_54 : decode cX10_painted 54 = .ok (.iload_n 2, 1) := by decide +kernel
theorem dX10_painted_55 : decode cX10_painted 55 = .ok (.ireturn, 1) := by decide +kernel
theorem dX10_book_0 : decode cX10_book 0 = .ok (.iload_n 1, 1) := by decide +kernel
theorem dX10_book_1 : decode cX10_book 1 = .ok (.iconst (-1), 1) := by decide +kernel
theorem dX10_book_2 : decode cX10_book 2 = .ok (.if_icmp .ne 11, 3) := by decide +kernel
theorem dX10_book_5 : decode cX10_book 5 = .ok (.aload_n 0, 1) := by decide +kernel
theorem dX10_book_6 : decode cX10_book 6 = .ok (.getfield 7, 3) := by decide +kernel
theorem dX10_book_9 : decode cX10_book 9 = .ok (.bipush 9, 2) := by decide +kernel
theorem dX10_book_11 : decode cX10_book 11 = .ok (.iaload, 1) := by decide +kernel
theorem dX10_book_12 : decode cX10_book 12 = .ok (.ireturn, 1) := by decide +kernel
theorem dX10_book_13 : decode cX10_book 13 = .ok (.iload_n 1, 1) := by decide +kernel
theorem dX10_book_14 : decode cX10_book 14 = .ok (.iconst 0, 1) := by decide +kernel
theorem dX10_book_15 : decode cX10_book 15 = .ok (.aload_n 0, 1) := by decide +kernel
theorem dX10_book_16 : decode cX10_book 16 = .ok (.getfield 7, 3) := by decide +kernel
theorem dX10_book_19 : decode cX10_book 19 = .ok (.bipush 9, 2) := by decide +kernel
theorem dX10_book_21 : decode cX10_book 21 = .ok (.iaload, 1) := by decide +kernel
theorem dX10_book_22 : decode cX10_book 22 = .ok (.iconst 1, 1) := by decide +kernel
theorem dX10_book_23 : decode cX10_book 23 = .ok (.isub, 1) := by decide +kernel
theorem dX10_book_24 : decode cX10_book 24 = .ok (.invokestatic 103, 3) := by decide +kernel
theorem dX10_book_27 : decode cX10_book 27 = .ok (.ifCond .eq 29, 3) := by decide +kernel
theorem dX10_book_30 : decode cX10_book 30 = .ok (.iload_n 2, 1) := by decide +kernel
theorem dX10_book_31 : decode cX10_book 31 = .ok (.iconst 0, 1) := by decide +kernel
theorem dX10_book_32 : decode cX10_book 32 = .ok (.iconst 2, 1) := by decide +kernel
theorem dX10_book_33 : decode cX10_book 33 = .ok (.invokestatic 103, 3) := by decide +kernel
theorem dX10_book_36 : decode cX10_book 36 = .ok (.ifCond .eq 20, 3) := by decide +kernel
theorem dX10_book_39 : decode cX10_book 39 = .ok (.aload_n 0, 1) := by decide +kernel
theorem dX10_book_40 : decode cX10_book 40 = .ok (.getfield 7, 3) := by decide +kernel
theorem dX10_book_43 : decode cX10_book 43 = .ok (.sipush 442, 3) := by decide +kernel
theorem dX10_book_46 : decode cX10_book 46 = .ok (.iconst 3, 1) := by decide +kernel
theorem dX10_book_47 : decode cX10_book 47 = .ok (.iload_n 1, 1) := by decide +kernel
theorem dX10_book_48 : decode cX10_book 48 = .ok (.imul, 1) := by decide +kernel
theorem dX10_book_49 : decode cX10_book 49 = .ok (.iadd, 1) := by decide +kernel
theorem dX10_book_50 : decode cX10_book 50 = .ok (.iload_n 2, 1) := by decide +kernel
theorem dX10_book_51 : decode cX10_book 51 = .ok (.iadd, 1) := by decide +kernel
theorem dX10_book_52 : decode cX10_book 52 = .ok (.iaload, 1) := by decide +kernel
theorem dX10_book_53 : decode cX10_book 53 = .ok (.goto 5, 3) := by decide +kernel
theorem dX10_book_56 : decode cX10_book 56 = .ok (.bipush (-2), 2) := by decide +kernel
theorem dX10_book_58 : decode cX10_book 58 = .ok (.ireturn, 1) := by decide +kernel
theorem dX10_common_0 : decode cX10_common 0 = .ok (.iload_n 1, 1) := by decide +kernel
theorem dX10_common_1 : decode cX10_common 1 = .ok (.iconst 0, 1) := by decide +kernel
theorem dX10_common_2 : decode cX10_common 2 = .ok (.iconst 1, 1) := by decide +kernel
theorem dX10_common_3 : decode cX10_common 3 = .ok (.invokestatic 103, 3) := by decide +kernel
theorem dX10_common_6 : decode cX10_common 6 = .ok (.ifCond .ne 5, 3) := by decide +kernel
theorem dX10_common_9 : decode cX10_common 9 = .ok (.iconst (-1), 1) := by decide +kernel
theorem dX10_common_10 : decode cX10_common 10 = .ok (.ireturn, 1) := by decide +kernel
theorem dX10_common_11 : decode cX10_common 11 = .ok (.aload_n 0, 1) := by decide +kernel
theorem dX10_common_12 : decode cX10_common 12 = .ok (.invokevirtual 184, 3) := by decide +kernel
theorem dX10_common_15 : decode cX10_common 15 = .ok (.iconst (-1), 1) := by decide +kernel
theorem dX10_common_16 : decode cX10_common 16 = .ok (.istore_n 2, 1) := by decide +kernel
theorem dX10_common_17 : decode cX10_common 17 = .ok (.iconst 0, 1) := by decide +kernel
theorem dX10_common_18 : decode cX10_common 18 = .ok (.istore_n 3, 1) := by decide +kernel
theorem dX10_common_19 : decode cX10_common 19 = .ok (.iconst 0, 1) := by decide +kernel
theorem dX10_common_20 : decode cX10_common 20 = .ok (.istore 4, 2) := by decide +kernel
theorem dX10_common_22 : decode cX10_common 22 = .ok (.iload 4, 2) := by decide +kernel
theorem dX10_common_24 : decode cX10_common 24 = .ok (.aload_n 0, 1) := by decide +kernel
theorem dX10_common_25 : decode cX10_common 25 = .ok (.getfield 117, 3) := by decide +kernel
theorem dX10_common_28 : decode cX10_common 28 = .ok (.if_icmp .ge 86, 3) := by decide +kernel
theorem dX10_common_31 : decode cX10_common 31 = .ok (.aload_n 0, 1) := by decide +kernel
theorem dX10_common_32 : decode cX10_common 32 = .ok (.aload_n 0, 1) := by decide +kernel
theorem dX10_common_33 : decode cX10_common 33 = .ok (.getfield 16, 3) := by decide +kernel
theorem dX10_common_36 : decode cX10_common 36 = .ok (.iload 4, 2) := by decide +kernel
theorem dX10_common_38 : decode cX10_common 38 = .ok (.iaload, 1) := by decide +kernel
theorem dX10_common_39 : decode cX10_common 39 = .ok (.invokevirtual 120, 3) := by decide +kernel
theorem dX10_common_42 : decode cX10_common 42 = .ok (.invokestatic 124, 3) := by decide +kernel
theorem dX10_common_45 : decode cX10_common 45 = .ok (.ifCond .eq 6, 3) := by decide +kernel
theorem dX10_common_48 : decode cX10_common 48 = .ok (.goto 60, 3) := by decide +kernel
theorem dX10_common_51 : decode cX10_common 51 = .ok (.iconst 0, 1) := by decide +kernel
theorem dX10_common_52 : decode cX10_common 52 = .ok (.istore 5, 2) := by decide +kernel
theorem dX10_common_54 : decode cX10_common 54 = .ok (.iconst 0, 1) := by decide +kernel
theorem dX10_common_55 : decode cX10_common 55 = .ok (.istore 6, 2) := by decide +kernel
theorem dX10_common_57 : decode cX10_common 57 = .ok (.iload 6, 2) := by decide +kernel
theorem dX10_common_59 : decode cX10_common 59 = .ok (.aload_n 0, 1) := by decide +kernel
theorem dX10_common_60 : decode cX10_common 60 = .ok (.getfield 117, 3) := by decide +kernel
theorem dX10_common_63 : decode cX10_common 63 = .ok (.if_icmp .ge 30, 3) := by decide +kernel
theorem dX10_common_66 : decode cX10_common 66 = .ok (.iload 5, 2) := by decide +kernel
theorem dX10_common_68 : decode cX10_common 68 = .ok (.aload_n 0, 1) := by decide +kernel
theorem dX10_common_69 : decode cX10_common 69 = .ok (.iload 4, 2) := by decide +kernel
theorem dX10_common_71 : decode cX10_common 71 = .ok (.iload 6, 2) := by decide +kernel
theorem dX10_common_73 : decode cX10_common 73 = .ok (.invokevirtual 135, 3) := by decide +kernel
theorem dX10_common_76 : decode cX10_common 76 = .ok (.ifCond .eq 7, 3) := by decide +kernel
theorem dX10_common_79 : decode cX10_common 79 = .ok (.iconst 1, 1) := by decide +kernel
theorem dX10_common_80 : decode cX10_common 80 = .ok (.goto 4, 3) := by decide +kernel
theorem dX10_common_83 : decode cX10_common 83 = .ok (.iconst 0, 1) := by decide +kernel
theorem dX10_common_84 : decode cX10_common 84 = .ok (.iadd, 1) := by decide +kernel
theorem dX10_common_85 : decode cX10_common 85 = .ok (.istore 5, 2) := by decide +kernel
theorem dX10_common_87 : decode cX10_common 87 = .ok (.iinc 6 1, 3) := by decide +kernel
theorem dX10_common_90 : decode cX10_common 90 = .ok (.goto (-33), 3) := by decide +kernel
theorem dX10_common_93 : decode cX10_common 93 = .ok (.iload 5, 2) := by decide +kernel
theorem dX10_common_95 : decode cX10_common 95 = .ok (.iload_n 3, 1) := by decide +kernel
theorem dX10_common_96 : decode cX10_common 96 = .ok (.if_icmp .gt 6, 3) := by decide +kernel
theorem dX10_common_99 : decode cX10_common 99 = .ok (.goto 9, 3) := by decide +kernel
theorem dX10_common_102 : decode cX10_common 102 = .ok (.iload 4, 2) := by decide +kernel
theorem dX10_common_104 : decode cX10_common 104 = .ok (.istore_n 2, 1) := by decide +kernel
theorem dX10_common_105 : decode cX10_common 105 = .ok (.iload 5, 2) := by decide +kernel
theorem dX10_common_107 : decode cX10_common 107 = .ok (.istore_n 3, 1) := by decide +kernel
theorem dX10_common_108 : decode cX10_common 108 = .ok (.iinc 4 1, 3) := by decide +kernel
theorem dX10_common_111 : decode cX10_common 111 = .ok (.goto (-89), 3) := by decide +kernel
theorem dX10_common_114 : decode cX10_common 114 = .ok (.iload_n 1, 1) := by decide +kernel
theorem dX10_common_115 : decode cX10_common 115 = .ok (.ifCond .eq 8, 3) := by decide +kernel
theorem dX10_common_118 : decode cX10_common 118 = .ok (.iload_n 2, 1) := by decide +kernel
theorem dX10_common_119 : decode cX10_common 119 = .ok (.iconst (-1), 1) := by decide +kernel
theorem dX10_common_120 : decode cX10_common 120 = .ok (.if_icmp .ne 7, 3) := by decide +kernel
theorem dX10_common_123 : decode cX10_common 123 = .ok (.iload_n 2, 1) := by decide +kernel
theorem dX10_common_124 : decode cX10_common 124 = .ok (.goto 4, 3) := by decide +kernel
theorem dX10_common_127 : decode cX10_common 127 = .ok (.iload_n 3, 1) := by decide +kernel
theorem dX10_common_128 : decode cX10_common 128 = .ok (.ireturn, 1) := by decide +kernel
theorem dX10_opens_0 : decode cX10_opens 0 = .ok (.iload_n 0, 1) := by decide +kernel
theorem dX10_opens_1 : decode cX10_opens 1 = .ok (.bipush 40, 2) := by decide +kernel
theorem dX10_opens_3 : decode cX10_opens 3 = .ok (.if_icmp .ne 7, 3) := by decide +kernel
theorem dX10_opens_6 : decode cX10_opens 6 = .ok (.iconst 1, 1) := by decide +kernel
theorem dX10_opens_7 : decode cX10_opens 7 = .ok (.goto 24, 3) := by decide +kernel
theorem dX10_opens_10 : decode cX10_opens 10 = .ok (.iload_n 0, 1) := by decide +kernel
theorem dX10_opens_11 : decode cX10_opens 11 = .ok (.bipush 91, 2) := by decide +kernel
theorem dX10_opens_13 : decode cX10_opens 13 = .ok (.if_icmp .ne 7, 3) := by decide +kernel
theorem dX10_opens_16 : decode cX10_opens 16 = .ok (.iconst 2, 1) := by decide +kernel
theorem dX10_opens_17 : decode cX10_opens 17 = .ok (.goto 14, 3) := by decide +kernel
theorem dX10_opens_20 : decode cX10_opens 20 = .ok (.iload_n 0, 1) := by decide +kernel
theorem dX10_opens_21 : decode cX10_opens 21 = .ok (.bipush 123, 2) := by decide +kernel
theorem dX10_opens_23 : decode cX10_opens 23 = .ok (.if_icmp .ne 7, 3) := by decide +kernel
theorem dX10_opens_26 : decode cX10_opens 26 = .ok (.iconst 3, 1) := by decide +kernel
theorem dX10_opens_27 : decode cX10_opens 27 = .ok (.goto 4, 3) := by decide +kernel
theorem dX10_opens_30 : decode cX10_opens 30 = .ok (.iconst 0, 1) := by decide +kernel
theorem dX10_opens_31 : decode cX10_opens 31 = .ok (.ireturn, 1) := by decide +kernel
theorem dX10_shuts_0 : decode cX10_shuts 0 = .ok (.iload_n 0, 1) := by decide +kernel
theorem dX10_shuts_1 : decode cX10_shuts 1 = .ok (.bipush 41, 2) := by decide +kernel
theorem dX10_shuts_3 : decode cX10_shuts 3 = .ok (.if_icmp .ne 7, 3) := by decide +kernel
theorem dX10_shuts_6 : decode cX10_shuts 6 = .ok (.iconst 1, 1) := by decide +kernel
theorem dX10_shuts_7 : decode cX10_shuts 7 = .ok (.goto 24, 3) := by decide +kernel
theorem dX10_shuts_10 : decode cX10_shuts 10 = .ok (.iload_n 0, 1) := by decide +kernel
theorem dX10_shuts_11 : decode cX10_shuts 11 = .ok (.bipush 93, 2) := by decide +kernel
theorem dX10_shuts_13 : decode cX10_shuts 13 = .ok (.if_icmp .ne 7, 3) := by decide +kernel
theorem dX10_shuts_16 : decode cX10_shuts 16 = .ok (.iconst 2, 1) := by decide +kernel
theorem dX10_shuts_17 : decode cX10_shuts 17 = .ok (.goto 14, 3) := by decide +kernel
theorem dX10_shuts_20 : decode cX10_shuts 20 = .ok (.iload_n 0, 1) := by decide +kernel
theorem dX10_shuts_21 : decode cX10_shuts 21 = .ok (.bipush 125, 2) := by decide +kernel
theorem dX10_shuts_23 : decode cX10_shuts 23 = .ok (.if_icmp .ne 7, 3) := by decide +kernel
theorem dX10_shuts_26 : decode cX10_shuts 26 = .ok (.iconst 3, 1) := by decide +kernel
theorem dX10_shuts_27 : decode cX10_shuts 27 = .ok (.goto 4, 3) := by decide +kernel
theorem dX10_shuts_30 : decode cX10_shuts 30 = .ok (.iconst 0, 1) := by decide +kernel
theorem dX10_shuts_31 : decode cX10_shuts 31 = .ok (.ireturn, 1) := by decide +kernel
theorem dX10_layPairs_0 : decode cX10_layPairs 0 = .ok (.iconst 0, 1) := by decide +kernel
theorem dX10_layPairs_1 : decode cX10_layPairs 1 = .ok (.istore_n 1, 1) := by decide +kernel
theorem dX10_layPairs_2 : decode cX10_layPairs 2 = .ok (.iconst 0, 1) := by decide +kernel
theorem dX10_layPairs_3 : decode cX10_layPairs 3 = .ok (.istore_n 2, 1) := by decide +kernel
theorem dX10_layPairs_4 : decode cX10_layPairs 4 = .ok (.iload_n 2, 1) := by decide +kernel
theorem dX10_layPairs_5 : decode cX10_layPairs 5 = .ok (.aload_n 0, 1) := by decide +kernel
theorem dX10_layPairs_6 : decode cX10_layPairs 6 = .ok (.getfield 7, 3) := by decide +kernel
theorem dX10_layPairs_9 : decode cX10_layPairs 9 = .ok (.iconst 2, 1) := by decide +kernel
theorem dX10_layPairs_10 : decode cX10_layPairs 10 = .ok (.iaload, 1) := by decide +kernel
theorem dX10_layPairs_11 : decode cX10_layPairs 11 = .ok (.if_icmp .ge 118, 3) := by decide +kernel
theorem dX10_layPairs_14 : decode cX10_layPairs 14 = .ok (.aload_n 0, 1) := by decide +kernel
theorem dX10_layPairs_15 : decode cX10_layPairs 15 = .ok (.getfield 78, 3) := by decide +kernel
theorem dX10_layPairs_18 : decode cX10_layPairs 18 = .ok (.iload_n 2, 1) := by decide +kernel
theorem dX10_layPairs_19 : decode cX10_layPairs 19 = .ok (.iconst (-1), 1) := by decide +kernel
theorem dX10_layPairs_20 : decode cX10_layPairs 20 = .ok (.iastore, 1) := by decide +kernel
theorem dX10_layPairs_21 : decode cX10_layPairs 21 = .ok (.aload_n 0, 1) := by decide +kernel
theorem dX10_layPairs_22 : decode cX10_layPairs 22 = .ok (.iload_n 2, 1) := by decide +kernel
theorem dX10_layPairs_23 : decode cX10_layPairs 23 = .ok (.invokevirtual 120, 3) := by decide +kernel
theorem dX10_layPairs_26 : decode cX10_layPairs 26 = .ok (.invokestatic 360, 3) := by decide +kernel
theorem dX10_layPairs_29 : decode cX10_layPairs 29 = .ok (.ifCond .le 13, 3) := by decide +kernel
theorem dX10_layPairs_32 : decode cX10_layPairs 32 = .ok (.aload_n 0, 1) := by decide +kernel
theorem dX10_layPairs_33 : decode cX10_layPairs 33 = .ok (.getfield 81, 3) := by decide +kernel
theorem dX10_layPairs_36 : decode cX10_layPairs 36 = .ok (.iload_n 1, 1) := by decide +kernel
theorem dX10_layPairs_37 : decode cX10_layPairs 37 = .ok (.iload_n 2, 1) := by decide +kernel
theorem dX10_layPairs_38 : decode cX10_layPairs 38 = .ok (.iastore, 1) := by decide +kernel
theorem dX10_layPairs_39 : decode cX10_layPairs 39 = .ok (.iinc 1 1, 3) := by decide +kernel
theorem dX10_layPairs_42 : decode cX10_layPairs 42 = .ok (.aload_n 0, 1) := by decide +kernel
theorem dX10_layPairs_43 : decode cX10_layPairs 43 = .ok (.iload_n 2, 1) := by decide +kernel
theorem dX10_layPairs_44 : decode cX10_layPairs 44 = .ok (.invokevirtual 120, 3) := by decide +kernel
theorem dX10_layPairs_47 : decode cX10_layPairs 47 = .ok (.invokestatic 363, 3) := by decide +kernel
theorem dX10_layPairs_50 : decode cX10_layPairs 50 = .ok (.ifCond .le 37, 3) := by decide +kernel
theorem dX10_layPairs_53 : decode cX10_layPairs 53 = .ok (.iload_n 1, 1) := by decide +kernel
theorem dX10_layPairs_54 : decode cX10_layPairs 54 = .ok (.ifCond .le 33, 3) := by decide +kernel
theorem dX10_layPairs_57 : decode cX10_layPairs 57 = .ok (.aload_n 0, 1) := by decide +kernel
theorem dX10_layPairs_58 : decode cX10_layPairs 58 = .ok (.aload_n 0, 1) := by decide +kernel
theorem dX10_layPairs_59 : decode cX10_layPairs 59 = .ok (.getfield 81, 3) := by decide +kernel
theorem dX10_layPairs_62 : decode cX10_layPairs 62 = .ok (.iload_n 1, 1) := by decide +kernel
theorem dX10_layPairs_63 : decode cX10_layPairs 63 = .ok (.iconst 1, 1) := by decide +kernel
theorem dX10_layPairs_64 : decode cX10_layPairs 64 = .ok (.isub, 1) := by decide +kernel
theorem dX10_layPairs_65 : decode cX10_layPairs 65 = .ok (.iaload, 1) := by decide +kernel
theorem dX10_layPairs_66 : decode cX10_layPairs 66 = .ok (.invokevirtual 120, 3) := by decide +kernel
theorem dX10_layPairs_69 : decode cX10_layPairs 69 = .ok (.invokestatic 360, 3) := by decide +kernel
theorem dX10_layPairs_72 : decode cX10_layPairs 72 = .ok (.aload_n 0, 1) := by decide +kernel
theorem dX10_layPairs_73 : decode cX10_layPairs 73 = .ok (.iload_n 2, 1) := by decide +kernel
theorem dX10_layPairs_74 : decode cX10_layPairs 74 = .ok (.invokevirtual 120, 3) := by decide +kernel
theorem dX10_layPairs_77 : decode cX10_layPairs 77 = .ok (.invokestatic 363, 3) := by decide +kernel
theorem dX10_layPairs_80 : decode cX10_layPairs 80 = .ok (.if_icmp .ne 7, 3) := by decide +kernel
theorem dX10_layPairs_83 : decode cX10_layPairs 83 = .ok (.iconst 1, 1) := by decide +kernel
theorem dX10_layPairs_84 : decode cX10_layPairs 84 = .ok (.goto 4, 3) := by decide +kernel
theorem dX10_layPairs_87 : decode cX10_layPairs 87 = .ok (.iconst 0, 1) := by decide +kernel
theorem dX10_layPairs_88 : decode cX10_layPairs 88 = .ok (.istore_n 3, 1) := by decide +kernel
theorem dX10_layPairs_89 : decode cX10_layPairs 89 = .ok (.iload_n 3, 1) := by decide +kernel
theorem dX10_layPairs_90 : decode cX10_layPairs 90 = .ok (.ifCond .ne 6, 3) := by decide +kernel
theorem dX10_layPairs_93 : decode cX10_layPairs 93 = .ok (.goto 30, 3) := by decide +kernel
theorem dX10_layPairs_96 : decode cX10_layPairs 96 = .ok (.iinc 1 (-1), 3) := by decide +kernel
theorem dX10_layPairs_99 : decode cX10_layPairs 99 = .ok (.aload_n 0, 1) := by decide +kernel
theorem dX10_layPairs_100 : decode cX10_layPairs 100 = .ok (.getfield 78, 3) := by decide +kernel
theorem dX10_layPairs_103 : decode cX10_layPairs 103 = .ok (.iload_n 2, 1) := by decide +kernel
theorem dX10_layPairs_104 : decode cX10_layPairs 104 = .ok (.aload_n 0, 1) := by decide +kernel
theorem dX10_layPairs_105 : decode cX10_layPairs 105 = .ok (.getfield 81, 3) := by decide +kernel
theorem dX10_layPairs_108 : decode cX10_layPairs 108 = .ok (.iload_n 1, 1) := by decide +kernel
theorem dX10_layPairs_109 : decode cX10_layPairs 109 = .ok (.iaload, 1) := by decide +kernel
theorem dX10_layPairs_110 : decode cX10_layPairs 110 = .ok (.iastore, 1) := by decide +kernel
theorem dX10_layPairs_111 : decode cX10_layPairs 111 = .ok (.aload_n 0, 1) := by decide +kernel
theorem dX10_layPairs_112 : decode cX10_layPairs 112 = .ok (.getfield 78, 3) := by decide +kernel
theorem dX10_layPairs_115 : decode cX10_layPairs 115 = .ok (.aload_n 0, 1) := by decide +kernel
theorem dX10_layPairs_116 : decode cX10_layPairs 116 = .ok (.getfield 81, 3) := by decide +kernel
theorem dX10_layPairs_119 : decode cX10_layPairs 119 = .ok (.iload_n 1, 1) := by decide +kernel
theorem dX10_layPairs_120 : decode cX10_layPairs 120 = .ok (.iaload, 1) := by decide +kernel
theorem dX10_layPairs_121 : decode cX10_layPairs 121 = .ok (.iload_n 2, 1) := by decide +kernel
theorem dX10_layPairs_122 : decode cX10_layPairs 122 = .ok (.iastore, 1) := by decide +kernel
theorem dX10_layPairs_123 : decode cX10_layPairs 123 = .ok (.iinc 2 1, 3) := by decide +kernel
theorem dX10_layPairs_126 : decode cX10_layPairs 126 = .ok (.goto (-122), 3) := by decide +kernel
theorem dX10_layPairs_129 : decode cX10_layPairs 129 = .ok (.return_, 1) := by decide +kernel
theorem dX10_unpaired_0 : decode cX10_unpaired 0 = .ok (.aload_n 0, 1) := by decide +kernel
theorem dX10_unpaired_1 : decode cX10_unpaired 1 = .ok (.invokevirtual 366, 3) := by decide +kernel
theorem dX10_unpaired_4 : decode cX10_unpaired 4 = .ok (.iconst 0, 1) := by decide +kernel
theorem dX10_unpaired_5 : decode cX10_unpaired 5 = .ok (.istore_n 1, 1) := by decide +kernel
theorem dX10_unpaired_6 : decode cX10_unpaired 6 = .ok (.iconst 0, 1) := by decide +kernel
theorem dX10_unpaired_7 : decode cX10_unpaired 7 = .ok (.istore_n 2, 1) := by decide +kernel
theorem dX10_unpaired_8 : decode cX10_unpaired 8 = .ok (.iload_n 2, 1) := by decide +kernel
theorem dX10_unpaired_9 : decode cX10_unpaired 9 = .ok (.aload_n 0, 1) := by decide +kernel
theorem dX10_unpaired_10 : decode cX10_unpaired 10 = .ok (.getfield 7, 3) := by decide +kernel
theorem dX10_unpaired_13 : decode cX10_unpaired 13 = .ok (.iconst 2, 1) := by decide +kernel
theorem dX10_unpaired_14 : decode cX10_unpaired 14 = .ok (.iaload, 1) := by decide +kernel
theorem dX10_unpaired_15 : decode cX10_unpaired 15 = .ok (.if_icmp .ge 47, 3) := by decide +kernel
theorem dX10_unpaired_18 : decode cX10_unpaired 18 = .ok (.iload_n 1, 1) := by decide +kernel
theorem dX10_unpaired_19 : decode cX10_unpaired 19 = .ok (.aload_n 0, 1) := by decide +kernel
theorem dX10_unpaired_20 : decode cX10_unpaired 20 = .ok (.iload_n 2, 1) := by decide +kernel
theorem dX10_unpaired_21 : decode cX10_unpaired 21 = .ok (.invokevirtual 120, 3) := by decide +kernel
theorem dX10_unpaired_24 : decode cX10_unpaired 24 = .ok (.invokestatic 360, 3) := by decide +kernel
theorem dX10_unpaired_27 : decode cX10_unpaired 27 = .ok (.aload_n 0, 1) := by decide +kernel
theorem dX10_unpaired_28 : decode cX10_unpaired 28 = .ok (.iload_n 2, 1) := by decide +kernel
theorem dX10_unpaired_29 : decode cX10_unpaired 29 = .ok (.invokevirtual 120, 3) := by decide +kernel
theorem dX10_unpaired_32 : decode cX10_unpaired 32 = .ok (.invokestatic 363, 3) := by decide +kernel
theorem dX10_unpaired_35 : decode cX10_unpaired 35 = .ok (.iadd, 1) := by decide +kernel
theorem dX10_unpaired_36 : decode cX10_unpaired 36 = .ok (.ifCond .le 17, 3) := by decide +kernel
theorem dX10_unpaired_39 : decode cX10_unpaired 39 = .ok (.aload_n 0, 1) := by decide +kernel
theorem dX10_unpaired_40 : decode cX10_unpaired 40 = .ok (.getfield 78, 3) := by decide +kernel
theorem dX10_unpaired_43 : decode cX10_unpaired 43 = .ok (.iload_n 2, 1) := by decide +kernel
theorem dX10_unpaired_44 : decode cX10_unpaired 44 = .ok (.iaload, 1) := by decide +kernel
theorem dX10_unpaired_45 : decode cX10_unpaired 45 = .ok (.iconst (-1), 1) := by decide +kernel
theorem dX10_unpaired_46 : decode cX10_unpaired 46 = .ok (.if_icmp .ne 7, 3) := by decide +kernel
theorem dX10_unpaired_49 : decode cX10_unpaired 49 = .ok (.iconst 1, 1) := by decide +kernel
theorem dX10_unpaired_50 : decode cX10_unpaired 50 = .ok (.goto 4, 3) := by decide +kernel
theorem dX10_unpaired_53 : decode cX10_unpaired 53 = .ok (.iconst 0, 1) := by decide +kernel
theorem dX10_unpaired_54 : decode cX10_unpaired 54 = .ok (.iadd, 1) := by decide +kernel
theorem dX10_unpaired_55 : decode cX10_unpaired 55 = .ok (.istore_n 1, 1) := by decide +kernel
theorem dX10_unpaired_56 : decode cX10_unpaired 56 = .ok (.iinc 2 1, 3) := by decide +kernel
theorem dX10_unpaired_59 : decode cX10_unpaired 59 = .ok (.goto (-51), 3) := by decide +kernel
theorem dX10_unpaired_62 : decode cX10_unpaired 62 = .ok (.iload_n 1, 1) := by decide +kernel
theorem dX10_unpaired_63 : decode cX10_unpaired 63 = .ok (.ireturn, 1) := by decide +kernel
theorem dX10_paired_0 : decode cX10_paired 0 = .ok (.aload_n 0, 1) := by decide +kernel
theorem dX10_paired_1 : decode cX10_paired 1 = .ok (.iload_n 1, 1) := by decide +kernel
theorem dX10_paired_2 : decode cX10_paired 2 = .ok (.invokevirtual 323, 3) := by decide +kernel
theorem dX10_paired_5 : decode cX10_paired 5 = .ok (.ifCond .ne 5, 3) := by decide +kernel
theorem dX10_paired_8 : decode cX10_paired 8 = .ok (.iconst (-1), 1) := by decide +kernel
theorem dX10_paired_9 : decode cX10_paired 9 = .ok (.ireturn, 1) := by decide +kernel
theorem dX10_paired_10 : decode cX10_paired 10 = .ok (.aload_n 0, 1) := by decide +kernel
theorem dX10_paired_11 : decode cX10_paired 11 = .ok (.invokevirtual 366, 3) := by decide +kernel
theorem dX10_paired_14 : decode cX10_paired 14 = .ok (.aload_n 0, 1) := by decide +kernel
theorem dX10_paired_15 : decode cX10_paired 15 = .ok (.getfield 78, 3) := by decide +kernel
theorem dX10_paired_18 : decode cX10_paired 18 = .ok (.iload_n 1, 1) := by decide +kernel
theorem dX10_paired_19 : decode cX10_paired 19 = .ok (.iaload, 1) := by decide +kernel
theorem dX10_paired_20 : decode cX10_paired 20 = .ok (.ireturn, 1) := by decide +kernel
theorem dX10_lineOf_0 : decode cX10_lineOf 0 = .ok (.iconst 0, 1) := by decide +kernel
theorem dX10_lineOf_1 : decode cX10_lineOf 1 = .ok (.istore_n 2, 1) := by decide +kernel
theorem dX10_lineOf_2 : decode cX10_lineOf 2 = .ok (.iconst 0, 1) := by decide +kernel
theorem dX10_lineOf_3 : decode cX10_lineOf 3 = .ok (.istore_n 3, 1) := by decide +kernel
theorem dX10_lineOf_4 : decode cX10_lineOf 4 = .ok (.iload_n 3, 1) := by decide +kernel
theorem dX10_lineOf_5 : decode cX10_lineOf 5 = .ok (.iload_n 1, 1) := by decide +kernel
theorem dX10_lineOf_6 : decode cX10_lineOf 6 = .ok (.if_icmp .ge 27, 3) := by decide +kernel
theorem dX10_lineOf_9 : decode cX10_lineOf 9 = .ok (.iload_n 2, 1) := by decide +kernel
theorem dX10_lineOf_10 : decode cX10_lineOf 10 = .ok (.aload_n 0, 1) := by decide +kernel
theorem dX10_lineOf_11 : decode cX10_lineOf 11 = .ok (.iload_n 3, 1) := by decide +kernel
theorem dX10_lineOf_12 : decode cX10_lineOf 12 = .ok (.invokevirtual 120, 3) := by decide +kernel
theorem dX10_lineOf_15 : decode cX10_lineOf 15 = .ok (.bipush 10, 2) := by decide +kernel
theorem dX10_lineOf_17 : decode cX10_lineOf 17 = .ok (.if_icmp .ne 7, 3) := by decide +kernel
theorem dX10_lineOf_20 : decode cX10_lineOf 20 = .ok (.iconst 1, 1) := by decide +kernel
theorem dX10_lineOf_21 : decode cX10_lineOf 21 = .ok (.goto 4, 3) := by decide +kernel
theorem dX10_lineOf_24 : decode cX10_lineOf 24 = .ok (.iconst 0, 1) := by decide +kernel
theorem dX10_lineOf_25 : decode cX10_lineOf 25 = .ok (.iadd, 1) := by decide +kernel
theorem dX10_lineOf_26 : decode cX10_lineOf 26 = .ok (.istore_n 2, 1) := by decide +kernel
theorem dX10_lineOf_27 : decode cX10_lineOf 27 = .ok (.iinc 3 1, 3) := by decide +kernel
theorem dX10_lineOf_30 : decode cX10_lineOf 30 = .ok (.goto (-26), 3) := by decide +kernel
theorem dX10_lineOf_33 : decode cX10_lineOf 33 = .ok (.iload_n 2, 1) := by decide +kernel
theorem dX10_lineOf_34 : decode cX10_lineOf 34 = .ok (.ireturn, 1) := by decide +kernel
theorem dX10_aheadOf_0 : decode cX10_aheadOf 0 = .ok (.iconst 0, 1) := by decide +kernel
theorem dX10_aheadOf_1 : decode cX10_aheadOf 1 = .ok (.istore_n 2, 1) := by decide +kernel
theorem dX10_aheadOf_2 : decode cX10_aheadOf 2 = .ok (.iload_n 1, 1) := by decide +kernel
theorem dX10_aheadOf_3 : decode cX10_aheadOf 3 = .ok (.iload_n 2, 1) := by decide +kernel
theorem dX10_aheadOf_4 : decode cX10_aheadOf 4 = .ok (.isub, 1) := by decide +kernel
theorem dX10_aheadOf_5 : decode cX10_aheadOf 5 = .ok (.ifCond .le 23, 3) := by decide +kernel
theorem dX10_aheadOf_8 : decode cX10_aheadOf 8 = .ok (.aload_n 0, 1) := by decide +kernel
theorem dX10_aheadOf_9 : decode cX10_aheadOf 9 = .ok (.iload_n 1, 1) := by decide +kernel
theorem dX10_aheadOf_10 : decode cX10_aheadOf 10 = .ok (.iload_n 2, 1) := by decide +kernel
theorem dX10_aheadOf_11 : decode cX10_aheadOf 11 = .ok (.isub, 1) := by decide +kernel
theorem dX10_aheadOf_12 : decode cX10_aheadOf 12 = .ok (.iconst 1, 1) := by decide +kernel
theorem dX10_aheadOf_13 : decode cX10_aheadOf 13 = .ok (.isub, 1) := by decide +kernel
theorem dX10_aheadOf_14 : decode cX10_aheadOf 14 = .ok (.invokevirtual 120, 3) := by decide +kernel
theorem dX10_aheadOf_17 : decode cX10_aheadOf 17 = .ok (.bipush 10, 2) := by decide +kernel
theorem dX10_aheadOf_19 : decode cX10_aheadOf 19 = .ok (.if_icmp .eq 9, 3) := by decide +kernel
theorem dX10_aheadOf_22 : decode cX10_aheadOf 22 = .ok (.iinc 2 1, 3) := by decide +kernel
theorem dX10_aheadOf_25 : decode cX10_aheadOf 25 = .ok (.goto (-23), 3) := by decide +kernel
theorem dX10_aheadOf_28 : decode cX10_aheadOf 28 = .ok (.iload_n 2, 1) := by decide +kernel
theorem dX10_aheadOf_29 : decode cX10_aheadOf 29 = .ok (.ireturn, 1) := by decide +kernel
theorem dX10_longestLine_0 : decode cX10_longestLine 0 = .ok (.iconst 0, 1) := by decide +kernel
theorem dX10_longestLine_1 : decode cX10_longestLine 1 = .ok (.istore_n 1, 1) := by decide +kernel
theorem dX10_longestLine_2 : decode cX10_longestLine 2 = .ok (.iconst 0, 1) := by decide +kernel
theorem dX10_longestLine_3 : decode cX10_longestLine 3 = .ok (.istore_n 2, 1) := by decide +kernel
theorem dX10_longestLine_4 : decode cX10_longestLine 4 = .ok (.iload_n 2, 1) := by decide +kernel
theorem dX10_longestLine_5 : decode cX10_longestLine 5 = .ok (.aload_n 0, 1) := by decide +kernel
theorem dX10_longestLine_6 : decode cX10_longestLine 6 = .ok (.getfield 7, 3) := by decide +kernel
theorem dX10_longestLine_9 : decode cX10_longestLine 9 = .ok (.iconst 2, 1) := by decide +kernel
theorem dX10_longestLine_10 : decode cX10_longestLine 10 = .ok (.iaload, 1) := by decide +kernel
theorem dX10_longestLine_11 : decode cX10_longestLine 11 = .ok (.if_icmp .gt 28, 3) := by decide +kernel
theorem dX10_longestLine_14 : decode cX10_longestLine 14 = .ok (.aload_n 0, 1) := by decide +kernel
theorem dX10_longestLine_15 : decode cX10_longestLine 15 = .ok (.iload_n 2, 1) := by decide +kernel
theorem dX10_longestLine_16 : decode cX10_longestLine 16 = .ok (.invokevirtual 369, 3) := by decide +kernel
theorem dX10_longestLine_19 : decode cX10_longestLine 19 = .ok (.iload_n 1, 1) := by decide +kernel
theorem dX10_longestLine_20 : decode cX10_longestLine 20 = .ok (.if_icmp .le 11, 3) := by decide +kernel
theorem dX10_longestLine_23 : decode cX10_longestLine 23 = .ok (.aload_n 0, 1) := by decide +kernel
theorem dX10_longestLine_24 : decode cX10_longestLine 24 = .ok (.iload_n 2, 1) := by decide +kernel
theorem dX10_longestLine_25 : decode cX10_longestLine 25 = .ok (.invokevirtual 369, 3) := by decide +kernel
theorem dX10_longestLine_28 : decode cX10_longestLine 28 = .ok (.goto 4, 3) := by decide +kernel
theorem dX10_longestLine_31 : decode cX10_longestLine 31 = .ok (.iload_n 1, 1) := by decide +kernel
theorem dX10_longestLine_32 : decode cX10_longestLine 32 = .ok (.istore_n 1, 1) := by decide +kernel
theorem dX10_longestLine_33 : decode cX10_longestLine 33 = .ok (.iinc 2 1, 3) := by decide +kernel
theorem dX10_longestLine_36 : decode cX10_longestLine 36 = .ok (.goto (-32), 3) := by decide +kernel
theorem dX10_longestLine_39 : decode cX10_longestLine 39 = .ok (.iload_n 1, 1) := by decide +kernel
theorem dX10_longestLine_40 : decode cX10_longestLine 40 = .ok (.ireturn, 1) := by decide +kernel
theorem dX10_line_0 : decode cX10_line 0 = .ok (.aload_n 0, 1) := by decide +kernel
theorem dX10_line_1 : decode cX10_line 1 = .ok (.iload_n 1, 1) := by decide +kernel
theorem dX10_line_2 : decode cX10_line 2 = .ok (.invokevirtual 323, 3) := by decide +kernel
theorem dX10_line_5 : decode cX10_line 5 = .ok (.ifCond .eq 12, 3) := by decide +kernel
theorem dX10_line_8 : decode cX10_line 8 = .ok (.iload_n 2, 1) := by decide +kernel
theorem dX10_line_9 : decode cX10_line 9 = .ok (.iconst 0, 1) := by decide +kernel
theorem dX10_line_10 : decode cX10_line 10 = .ok (.iconst 1, 1) := by decide +kernel
theorem dX10_line_11 : decode cX10_line 11 = .ok (.invokestatic 103, 3) := by decide +kernel
theorem dX10_line_14 : decode cX10_line 14 = .ok (.ifCond .ne 5, 3) := by decide +kernel
theorem dX10_line_17 : decode cX10_line 17 = .ok (.iconst (-1), 1) := by decide +kernel
theorem dX10_line_18 : decode cX10_line 18 = .ok (.ireturn, 1) := by decide +kernel
theorem dX10_line_19 : decode cX10_line 19 = .ok (.iload_n 2, 1) := by decide +kernel
theorem dX10_line_20 : decode cX10_line 20 = .ok (.ifCond .ne 11, 3) := by decide +kernel
theorem dX10_line_23 : decode cX10_line 23 = .ok (.aload_n 0, 1) := by decide +kernel
theorem dX10_line_24 : decode cX10_line 24 = .ok (.iload_n 1, 1) := by decide +kernel
theorem dX10_line_25 : decode cX10_line 25 = .ok (.invokevirtual 345, 3) := by decide +kernel
theorem dX10_line_28 : decode cX10_line 28 = .ok (.goto 8, 3) := by decide +kernel
theorem dX10_line_31 : decode cX10_line 31 = .ok (.aload_n 0, 1) := by decide +kernel
theorem dX10_line_32 : decode cX10_line 32 = .ok (.iload_n 1, 1) := by decide +kernel
theorem dX10_line_33 : decode cX10_line 33 = .ok (.invokevirtual 369, 3) := by decide +kernel
theorem dX10_line_36 : decode cX10_line 36 = .ok (.ireturn, 1) := by decide +kernel
theorem dX10_layWas_0 : decode cX10_layWas 0 = .ok (.aload_n 0, 1) := by decide +kernel
theorem dX10_layWas_1 : decode cX10_layWas 1 = .ok (.getfield 87, 3) := by decide +kernel
theorem dX10_layWas_4 : decode cX10_layWas 4 = .ok (.iload_n 1, 1) := by decide +kernel
theorem dX10_layWas_5 : decode cX10_layWas 5 = .ok (.aload_n 0, 1) := by decide +kernel
theorem dX10_layWas_6 : decode cX10_layWas 6 = .ok (.getfield 7, 3) := by decide +kernel
theorem dX10_layWas_9 : decode cX10_layWas 9 = .ok (.iconst 2, 1) := by decide +kernel
theorem dX10_layWas_10 : decode cX10_layWas 10 = .ok (.iaload, 1) := by decide +kernel
theorem dX10_layWas_11 : decode cX10_layWas 11 = .ok (.iastore, 1) := by decide +kernel
theorem dX10_layWas_12 : decode cX10_layWas 12 = .ok (.iconst 0, 1) := by decide +kernel
theorem dX10_layWas_13 : decode cX10_layWas 13 = .ok (.istore_n 2, 1) := by decide +kernel
theorem dX10_layWas_14 : decode cX10_layWas 14 = .ok (.iload_n 2, 1) := by decide +kernel
theorem dX10_layWas_15 : decode cX10_layWas 15 = .ok (.sipush 200, 3) := by decide +kernel
theorem dX10_layWas_18 : decode cX10_layWas 18 = .ok (.if_icmp .ge 26, 3) := by decide +kernel
theorem dX10_layWas_21 : decode cX10_layWas 21 = .ok (.aload_n 0, 1) := by decide +kernel
theorem dX10_layWas_22 : decode cX10_layWas 22 = .ok (.getfield 90, 3) := by decide +kernel
theorem dX10_layWas_25 : decode cX10_layWas 25 = .ok (.sipush 200, 3) := by decide +kernel
theorem dX10_layWas_28 : decode cX10_layWas 28 = .ok (.iload_n 1, 1) := by decide +kernel
theorem dX10_layWas_29 : decode cX10_layWas 29 = .ok (.imul, 1) := by decide +kernel
theorem dX10_layWas_30 : decode cX10_layWas 30 = .ok (.iload_n 2, 1) := by decide +kernel
theorem dX10_layWas_31 : decode cX10_layWas 31 = .ok (.iadd, 1) := by decide +kernel
theorem dX10_layWas_32 : decode cX10_layWas 32 = .ok (.aload_n 0, 1) := by decide +kernel
theorem dX10_layWas_33 : decode cX10_layWas 33 = .ok (.iload_n 2, 1) := by decide +kernel
theorem dX10_layWas_34 : decode cX10_layWas 34 = .ok (.invokevirtual 120, 3) := by decide +kernel
theorem dX10_layWas_37 : decode cX10_layWas 37 = .ok (.iastore, 1) := by decide +kernel
theorem dX10_layWas_38 : decode cX10_layWas 38 = .ok (.iinc 2 1, 3) := by decide +kernel
theorem dX10_layWas_41 : decode cX10_layWas 41 = .ok (.goto (-27), 3) := by decide +kernel
theorem dX10_layWas_44 : decode cX10_layWas 44 = .ok (.iconst 0, 1) := by decide +kernel
theorem dX10_layWas_45 : decode cX10_layWas 45 = .ok (.istore_n 2, 1) := by decide +kernel
theorem dX10_layWas_46 : decode cX10_layWas 46 = .ok (.iload_n 2, 1) := by decide +kernel
theorem dX10_layWas_47 : decode cX10_layWas 47 = .ok (.bipush 16, 2) := by decide +kernel
theorem dX10_layWas_49 : decode cX10_layWas 49 = .ok (.if_icmp .ge 30, 3) := by decide +kernel
theorem dX10_layWas_52 : decode cX10_layWas 52 = .ok (.aload_n 0, 1) := by decide +kernel
theorem dX10_layWas_53 : decode cX10_layWas 53 = .ok (.getfield 93, 3) := by decide +kernel
theorem dX10_layWas_56 : decode cX10_layWas 56 = .ok (.bipush 16, 2) := by decide +kernel
theorem dX10_layWas_58 : decode cX10_layWas 58 = .ok (.iload_n 1, 1) := by decide +kernel
theorem dX10_layWas_59 : decode cX10_layWas 59 = .ok (.imul, 1) := by decide +kernel
theorem dX10_layWas_60 : decode cX10_layWas 60 = .ok (.iload_n 2, 1) := by decide +kernel
theorem dX10_layWas_61 : decode cX10_layWas 61 = .ok (.iadd, 1) := by decide +kernel
theorem dX10_layWas_62 : decode cX10_layWas 62 = .ok (.aload_n 0, 1) := by decide +kernel
theorem dX10_layWas_63 : decode cX10_layWas 63 = .ok (.getfield 7, 3) := by decide +kernel
theorem dX10_layWas_66 : decode cX10_layWas 66 = .ok (.sipush 410, 3) := by decide +kernel
theorem dX10_layWas_69 : decode cX10_layWas 69 = .ok (.iload_n 2, 1) := by decide +kernel
theorem dX10_layWas_70 : decode cX10_layWas 70 = .ok (.iadd, 1) := by decide +kernel
theorem dX10_layWas_71 : decode cX10_layWas 71 = .ok (.iaload, 1) := by decide +kernel
theorem dX10_layWas_72 : decode cX10_layWas 72 = .ok (.iastore, 1) := by decide +kernel
theorem dX10_layWas_73 : decode cX10_layWas 73 = .ok (.iinc 2 1, 3) := by decide +kernel
theorem dX10_layWas_76 : decode cX10_layWas 76 = .ok (.goto (-30), 3) := by decide +kernel
theorem dX10_layWas_79 : decode cX10_layWas 79 = .ok (.return_, 1) := by decide +kernel
theorem dX10_areAlike_0 : decode cX10_areAlike 0 = .ok (.aload_n 0, 1) := by decide +kernel
theorem dX10_areAlike_1 : decode cX10_areAlike 1 = .ok (.getfield 87, 3) := by decide +kernel
theorem dX10_areAlike_4 : decode cX10_areAlike 4 = .ok (.iload_n 1, 1) := by decide +kernel
theorem dX10_areAlike_5 : decode cX10_areAlike 5 = .ok (.iaload, 1) := by decide +kernel
theorem dX10_areAlike_6 : decode cX10_areAlike 6 = .ok (.aload_n 0, 1) := by decide +kernel
theorem dX10_areAlike_7 : decode cX10_areAlike 7 = .ok (.getfield 87, 3) := by decide +kernel
theorem dX10_areAlike_10 : decode cX10_areAlike 10 = .ok (.iload_n 2, 1) := by decide +kernel
theorem dX10_areAlike_11 : decode cX10_areAlike 11 = .ok (.iaload, 1) := by decide +kernel
theorem dX10_areAlike_12 : decode cX10_areAlike 12 = .ok (.if_icmp .eq 5, 3) := by decide +kernel
theorem dX10_areAlike_15 : decode cX10_areAlike 15 = .ok (.iconst 0, 1) := by decide +kernel
theorem dX10_areAlike_16 : decode cX10_areAlike 16 = .ok (.ireturn, 1) := by decide +kernel
theorem dX10_areAlike_17 : decode cX10_areAlike 17 = .ok (.iconst 0, 1) := by decide +kernel
theorem dX10_areAlike_18 : decode cX10_areAlike 18 = .ok (.istore_n 3, 1) := by decide +kernel
theorem dX10_areAlike_19 : decode cX10_areAlike 19 = .ok (.iload_n 3, 1) := by decide +kernel
theorem dX10_areAlike_20 : decode cX10_areAlike 20 = .ok (.sipush 200, 3) := by decide +kernel
theorem dX10_areAlike_23 : decode cX10_areAlike 23 = .ok (.if_icmp .ge 38, 3) := by decide +kernel
theorem dX10_areAlike_26 : decode cX10_areAlike 26 = .ok (.aload_n 0, 1) := by decide +kernel
theorem dX10_areAlike_27 : decode cX10_areAlike 27 = .ok (.getfield 90, 3) := by decide +kernel
theorem dX10_areAlike_30 : decode cX10_areAlike 30 = .ok (.sipush 200, 3) := by decide +kernel
theorem dX10_areAlike_33 : decode cX10_areAlike 33 = .ok (.iload_n 1, 1) := by decide +kernel
theorem dX10_areAlike_34 : decode cX10_areAlike 34 = .ok (.imul, 1) := by decide +kernel
theorem dX10_areAlike_35 : decode cX10_areAlike 35 = .ok (.iload_n 3, 1) := by decide +kernel
theorem dX10_areAlike_36 : decode cX10_areAlike 36 = .ok (.iadd, 1) := by decide +kernel
theorem dX10_areAlike_37 : decode cX10_areAlike 37 = .ok (.iaload, 1) := by decide +kernel
theorem dX10_areAlike_38 : decode cX10_areAlike 38 = .ok (.aload_n 0, 1) := by decide +kernel
theorem dX10_areAlike_39 : decode cX10_areAlike 39 = .ok (.getfield 90, 3) := by decide +kernel
theorem dX10_areAlike_42 : decode cX10_areAlike 42 = .ok (.sipush 200, 3) := by decide +kernel
theorem dX10_areAlike_45 : decode cX10_areAlike 45 = .ok (.iload_n 2, 1) := by decide +kernel
theorem dX10_areAlike_46 : decode cX10_areAlike 46 = .ok (.imul, 1) := by decide +kernel
theorem dX10_areAlike_47 : decode cX10_areAlike 47 = .ok (.iload_n 3, 1) := by decide +kernel
theorem dX10_areAlike_48 : decode cX10_areAlike 48 = .ok (.iadd, 1) := by decide +kernel
theorem dX10_areAlike_49 : decode cX10_areAlike 49 = .ok (.iaload, 1) := by decide +kernel
theorem dX10_areAlike_50 : decode cX10_areAlike 50 = .ok (.if_icmp .eq 5, 3) := by decide +kernel
theorem dX10_areAlike_53 : decode cX10_areAlike 53 = .ok (.iconst 0, 1) := by decide +kernel
theorem dX10_areAlike_54 : decode cX10_areAlike 54 = .ok (.ireturn, 1) := by decide +kernel
theorem dX10_areAlike_55 : decode cX10_areAlike 55 = .ok (.iinc 3 1, 3) := by decide +kernel
theorem dX10_areAlike_58 : decode cX10_areAlike 58 = .ok (.goto (-39), 3) := by decide +kernel
theorem dX10_areAlike_61 : decode cX10_areAlike 61 = .ok (.iconst 0, 1) := by decide +kernel
theorem dX10_areAlike_62 : decode cX10_areAlike 62 = .ok (.istore_n 3, 1) := by decide +kernel
theorem dX10_areAlike_63 : decode cX10_areAlike 63 = .ok (.iload_n 3, 1) := by decide +kernel
theorem dX10_areAlike_64 : decode cX10_areAlike 64 = .ok (.bipush 16, 2) := by decide +kernel
theorem dX10_areAlike_66 : decode cX10_areAlike 66 = .ok (.if_icmp .ge 36, 3) := by decide +kernel
theorem dX10_areAlike_69 : decode cX10_areAlike 69 = .ok (.aload_n 0, 1) := by decide +kernel
theorem dX10_areAlike_70 : decode cX10_areAlike 70 = .ok (.getfield 93, 3) := by decide +kernel
theorem dX10_areAlike_73 : decode cX10_areAlike 73 = .ok (.bipush 16, 2) := by decide +kernel
theorem dX10_areAlike_75 : decode cX10_areAlike 75 = .ok (.iload_n 1, 1) := by decide +kernel
theorem dX10_areAlike_76 : decode cX10_areAlike 76 = .ok (.imul, 1) := by decide +kernel
theorem dX10_areAlike_77 : decode cX10_areAlike 77 = .ok (.iload_n 3, 1) := by decide +kernel
theorem dX10_areAlike_78 : decode cX10_areAlike 78 = .ok (.iadd, 1) := by decide +kernel
theorem dX10_areAlike_79 : decode cX10_areAlike 79 = .ok (.iaload, 1) := by decide +kernel
theorem dX10_areAlike_80 : decode cX10_areAlike 80 = .ok (.aload_n 0, 1) := by decide +kernel
theorem dX10_areAlike_81 : decode cX10_areAlike 81 = .ok (.getfield 93, 3) := by decide +kernel
theorem dX10_areAlike_84 : decode cX10_areAlike 84 = .ok (.bipush 16, 2) := by decide +kernel
theorem dX10_areAlike_86 : decode cX10_areAlike 86 = .ok (.iload_n 2, 1) := by decide +kernel
theorem dX10_areAlike_87 : decode cX10_areAlike 87 = .ok (.imul, 1) := by decide +kernel
theorem dX10_areAlike_88 : decode cX10_areAlike 88 = .ok (.iload_n 3, 1) := by decide +kernel
theorem dX10_areAlike_89 : decode cX10_areAlike 89 = .ok (.iadd, 1) := by decide +kernel
theorem dX10_areAlike_90 : decode cX10_areAlike 90 = .ok (.iaload, 1) := by decide +kernel
theorem dX10_areAlike_91 : decode cX10_areAlike 91 = .ok (.if_icmp .eq 5, 3) := by decide +kernel
theorem dX10_areAlike_94 : decode cX10_areAlike 94 = .ok (.iconst 0, 1) := by decide +kernel
theorem dX10_areAlike_95 : decode cX10_areAlike 95 = .ok (.ireturn, 1) := by decide +kernel
theorem dX10_areAlike_96 : decode cX10_areAlike 96 = .ok (.iinc 3 1, 3) := by decide +kernel
theorem dX10_areAlike_99 : decode cX10_areAlike 99 = .ok (.goto (-36), 3) := by decide +kernel
theorem dX10_areAlike_102 : decode cX10_areAlike 102 = .ok (.iconst 1, 1) := by decide +kernel
theorem dX10_areAlike_103 : decode cX10_areAlike 103 = .ok (.ireturn, 1) := by decide +kernel
theorem dX10_sameAs_0 : decode cX10_sameAs 0 = .ok (.iconst 0, 1) := by decide +kernel
theorem dX10_sameAs_1 : decode cX10_sameAs 1 = .ok (.istore_n 2, 1) := by decide +kernel
theorem dX10_sameAs_2 : decode cX10_sameAs 2 = .ok (.iload_n 2, 1) := by decide +kernel
theorem dX10_sameAs_3 : decode cX10_sameAs 3 = .ok (.iload_n 1, 1) := by decide +kernel
theorem dX10_sameAs_4 : decode cX10_sameAs 4 = .ok (.if_icmp .ge 20, 3) := by decide +kernel
theorem dX10_sameAs_7 : decode cX10_sameAs 7 = .ok (.aload_n 0, 1) := by decide +kernel
theorem dX10_sameAs_8 : decode cX10_sameAs 8 = .ok (.iload_n 2, 1) := by decide +kernel
theorem dX10_sameAs_9 : decode cX10_sameAs 9 = .ok (.iload_n 1, 1) := by decide +kernel
theorem dX10_sameAs_10 : decode cX10_sameAs 10 = .ok (.invokevirtual 372, 3) := by decide +kernel
theorem dX10_sameAs_13 : decode cX10_sameAs 13 = .ok (.ifCond .eq 5, 3) := by decide +kernel
theorem dX10_sameAs_16 : decode cX10_sameAs 16 = .ok (.iload_n 2, 1) := by decide +kernel
theorem dX10_sameAs_17 : decode cX10_sameAs 17 = .ok (.ireturn, 1) := by decide +kernel
theorem dX10_sameAs_18 : decode cX10_sameAs 18 = .ok (.iinc 2 1, 3) := by decide +kernel
theorem dX10_sameAs_21 : decode cX10_sameAs 21 = .ok (.goto (-19), 3) := by decide +kernel
theorem dX10_sameAs_24 : decode cX10_sameAs 24 = .ok (.iconst (-1), 1) := by decide +kernel
theorem dX10_sameAs_25 : decode cX10_sameAs 25 = .ok (.ireturn, 1) := by decide +kernel
theorem dX10_rulesOfSet_0 : decode cX10_rulesOfSet 0 = .ok (.iconst 0, 1) := by decide +kernel
theorem dX10_rulesOfSet_1 : decode cX10_rulesOfSet 1 = .ok (.istore_n 1, 1) := by decide +kernel
theorem dX10_rulesOfSet_2 : decode cX10_rulesOfSet 2 = .ok (.iconst 0, 1) := by decide +kernel
theorem dX10_rulesOfSet_3 : decode cX10_rulesOfSet 3 = .ok (.istore_n 2, 1) := by decide +kernel
theorem dX10_rulesOfSet_4 : decode cX10_rulesOfSet 4 = .ok (.iload_n 2, 1) := by decide +kernel
theorem dX10_rulesOfSet_5 : decode cX10_rulesOfSet 5 = .ok (.aload_n 0, 1) := by decide +kernel
theorem dX10_rulesOfSet_6 : decode cX10_rulesOfSet 6 = .ok (.getfield 175, 3) := by decide +kernel
theorem dX10_rulesOfSet_9 : decode cX10_rulesOfSet 9 = .ok (.if_icmp .ge 29, 3) := by decide +kernel
theorem dX10_rulesOfSet_12 : decode cX10_rulesOfSet 12 = .ok (.aload_n 0, 1) := by decide +kernel
theorem dX10_rulesOfSet_13 : decode cX10_rulesOfSet 13 = .ok (.getfield 53, 3) := by decide +kernel
theorem dX10_rulesOfSet_16 : decode cX10_rulesOfSet 16 = .ok (.iload_n 2, 1) := by decide +kernel
theorem dX10_rulesOfSet_17 : decode cX10_rulesOfSet 17 = .ok (.baload, 1) := by decide +kernel
theorem dX10_rulesOfSet_18 : decode cX10_rulesOfSet 18 = .ok (.ifCond .eq 14, 3) := by decide +kernel
theorem dX10_rulesOfSet_21 : decode cX10_rulesOfSet 21 = .ok (.iload_n 1, 1) := by decide +kernel
theorem dX10_rulesOfSet_22 : decode cX10_rulesOfSet 22 = .ok (.iconst 1, 1) := by decide +kernel
theorem dX10_rulesOfSet_23 : decode cX10_rulesOfSet 23 = .ok (.aload_n 0, 1) := by decide +kernel
theorem dX10_rulesOfSet_24 : decode cX10_rulesOfSet 24 = .ok (.getfield 28, 3) := by decide +kernel
theorem dX10_rulesOfSet_27 : decode cX10_rulesOfSet 27 = .ok (.iload_n 2, 1) := by decide +kernel
theorem dX10_rulesOfSet_28 : decode cX10_rulesOfSet 28 = .ok (.iaload, 1) := by decide +kernel
theorem dX10_rulesOfSet_29 : decode cX10_rulesOfSet 29 = .ok (.ishl, 1) := by decide +kernel
theorem dX10_rulesOfSet_30 : decode cX10_rulesOfSet 30 = .ok (.ior, 1) := by decide +kernel
theorem dX10_rulesOfSet_31 : decode cX10_rulesOfSet 31 = .ok (.istore_n 1, 1) := by decide +kernel
theorem dX10_rulesOfSet_32 : decode cX10_rulesOfSet 32 = .ok (.iinc 2 1, 3) := by decide +kernel
theorem dX10_rulesOfSet_35 : decode cX10_rulesOfSet 35 = .ok (.goto (-31), 3) := by decide +kernel
theorem dX10_rulesOfSet_38 : decode cX10_rulesOfSet 38 = .ok (.iload_n 1, 1) := by decide +kernel
theorem dX10_rulesOfSet_39 : decode cX10_rulesOfSet 39 = .ok (.ireturn, 1) := by decide +kernel
theorem dX10_goCourse_0 : decode cX10_goCourse 0 = .ok (.aload_n 0, 1) := by decide +kernel
theorem dX10_goCourse_1 : decode cX10_goCourse 1 = .ok (.iconst 0, 1) := by decide +kernel
theorem dX10_goCourse_2 : decode cX10_goCourse 2 = .ok (.putfield 375, 3) := by decide +kernel
theorem dX10_goCourse_5 : decode cX10_goCourse 5 = .ok (.aload_n 0, 1) := by decide +kernel
theorem dX10_goCourse_6 : decode cX10_goCourse 6 = .ok (.iconst 0, 1) := by decide +kernel
theorem dX10_goCourse_7 : decode cX10_goCourse 7 = .ok (.putfield 378, 3) := by decide +kernel
theorem dX10_goCourse_10 : decode cX10_goCourse 10 = .ok (.aload_n 0, 1) := by decide +kernel
theorem dX10_goCourse_11 : decode cX10_goCourse 11 = .ok (.aload_n 0, 1) := by decide +kernel
theorem dX10_goCourse_12 : decode cX10_goCourse 12 = .ok (.getfield 375, 3) := by decide +kernel
theorem dX10_goCourse_15 : decode cX10_goCourse 15 = .ok (.invokevirtual 381, 3) := by decide +kernel
theorem dX10_goCourse_18 : decode cX10_goCourse 18 = .ok (.aload_n 0, 1) := by decide +kernel
theorem dX10_goCourse_19 : decode cX10_goCourse 19 = .ok (.aload_n 0, 1) := by decide +kernel
theorem dX10_goCourse_20 : decode cX10_goCourse 20 = .ok (.aload_n 0, 1) := by decide +kernel
theorem dX10_goCourse_21 : decode cX10_goCourse 21 = .ok (.getfield 375, 3) := by decide +kernel
theorem dX10_goCourse_24 : decode cX10_goCourse 24 = .ok (.invokevirtual 384, 3) := by decide +kernel
theorem dX10_goCourse_27 : decode cX10_goCourse 27 = .ok (.putfield 387, 3) := by decide +kernel
theorem dX10_goCourse_30 : decode cX10_goCourse 30 = .ok (.aload_n 0, 1) := by decide +kernel
theorem dX10_goCourse_31 : decode cX10_goCourse 31 = .ok (.invokevirtual 229, 3) := by decide +kernel
theorem dX10_goCourse_34 : decode cX10_goCourse 34 = .ok (.aload_n 0, 1) := by decide +kernel
theorem dX10_goCourse_35 : decode cX10_goCourse 35 = .ok (.aload_n 0, 1) := by decide +kernel
theorem dX10_goCourse_36 : decode cX10_goCourse 36 = .ok (.getfield 387, 3) := by decide +kernel
theorem dX10_goCourse_39 : decode cX10_goCourse 39 = .ok (.iconst (-1), 1) := by decide +kernel
theorem dX10_goCourse_40 : decode cX10_goCourse 40 = .ok (.if_icmp .eq 7, 3) := by decide +kernel
theorem dX10_goCourse_43 : decode cX10_goCourse 43 = .ok (.iconst 1, 1) := by decide +kernel
theorem dX10_goCourse_44 : decode cX10_goCourse 44 = .ok (.goto 43, 3) := by decide +kernel
theorem dX10_goCourse_47 : decode cX10_goCourse 47 = .ok (.aload_n 0, 1) := by decide +kernel
theorem dX10_goCourse_48 : decode cX10_goCourse 48 = .ok (.getfield 211, 3) := by decide +kernel
theorem dX10_goCourse_51 : decode cX10_goCourse 51 = .ok (.ifCond .ne 7, 3) := by decide +kernel
theorem dX10_goCourse_54 : decode cX10_goCourse 54 = .ok (.iconst 0, 1) := by decide +kernel
theorem dX10_goCourse_55 : decode cX10_goCourse 55 = .ok (.goto 32, 3) := by decide +kernel
theorem dX10_goCourse_58 : decode cX10_goCourse 58 = .ok (.aload_n 0, 1) := by decide +kernel
theorem dX10_goCourse_59 : decode cX10_goCourse 59 = .ok (.iconst (-1), 1) := by decide +kernel
theorem dX10_goCourse_60 : decode cX10_goCourse 60 = .ok (.invokevirtual 226, 3) := by decide +kernel
theorem dX10_goCourse_63 : decode cX10_goCourse 63 = .ok (.sipush 200, 3) := by decide +kernel
theorem dX10_goCourse_66 : decode cX10_goCourse 66 = .ok (.if_icmp .le 7, 3) := by decide +kernel
theorem dX10_goCourse_69 : decode cX10_goCourse 69 = .ok (.iconst 2, 1) := by decide +kernel
theorem dX10_goCourse_70 : decode cX10_goCourse 70 = .ok (.goto 17, 3) := by decide +kernel
theorem dX10_goCourse_73 : decode cX10_goCourse 73 = .ok (.aload_n 0, 1) := by decide +kernel
theorem dX10_goCourse_74 : decode cX10_goCourse 74 = .ok (.getfield 375, 3) := by decide +kernel
theorem dX10_goCourse_77 : decode cX10_goCourse 77 = .ok (.bipush 30, 2) := by decide +kernel
theorem dX10_goCourse_79 : decode cX10_goCourse 79 = .ok (.if_icmp .ne 7, 3) := by decide +kernel
theorem dX10_goCourse_82 : decode cX10_goCourse 82 = .ok (.iconst 3, 1) := by decide +kernel
theorem dX10_goCourse_83 : decode cX10_goCourse 83 = .ok (.goto 4, 3) := by decide +kernel
theorem dX10_goCourse_86 : decode cX10_goCourse 86 = .ok (.iconst (-1), 1) := by decide +kernel
theorem dX10_goCourse_87 : decode cX10_goCourse 87 = .ok (.putfield 390, 3) := by decide +kernel
theorem dX10_goCourse_90 : decode cX10_goCourse 90 = .ok (.aload_n 0, 1) := by decide +kernel
theorem dX10_goCourse_91 : decode cX10_goCourse 91 = .ok (.getfield 390, 3) := by decide +kernel
theorem dX10_goCourse_94 : decode cX10_goCourse 94 = .ok (.iconst (-1), 1) := by decide +kernel
theorem dX10_goCourse_95 : decode cX10_goCourse 95 = .ok (.if_icmp .eq 4, 3) := by decide +kernel
theorem dX10_goCourse_98 : decode cX10_goCourse 98 = .ok (.return_, 1) := by decide +kernel
theorem dX10_goCourse_99 : decode cX10_goCourse 99 = .ok (.aload_n 0, 1) := by decide +kernel
theorem dX10_goCourse_100 : decode cX10_goCourse 100 = .ok (.getfield 96, 3) := by decide +kernel
theorem dX10_goCourse_103 : decode cX10_goCourse 103 = .ok (.aload_n 0, 1) := by decide +kernel
theorem dX10_goCourse_104 : decode cX10_goCourse 104 = .ok (.getfield 375, 3) := by decide +kernel
theorem dX10_goCourse_107 : decode cX10_goCourse 107 = .ok (.aload_n 0, 1) := by decide +kernel
theorem dX10_goCourse_108 : decode cX10_goCourse 108 = .ok (.invokevirtual 393, 3) := by decide +kernel
theorem dX10_goCourse_111 : decode cX10_goCourse 111 = .ok (.iastore, 1) := by decide +kernel
theorem dX10_goCourse_112 : decode cX10_goCourse 112 = .ok (.aload_n 0, 1) := by decide +kernel
theorem dX10_goCourse_113 : decode cX10_goCourse 113 = .ok (.dup, 1) := by decide +kernel
theorem dX10_goCourse_114 : decode cX10_goCourse 114 = .ok (.getfield 378, 3) := by decide +kernel
theorem dX10_goCourse_117 : decode cX10_goCourse 117 = .ok (.aload_n 0, 1) := by decide +kernel
theorem dX10_goCourse_118 : decode cX10_goCourse 118 = .ok (.getfield 211, 3) := by decide +kernel
theorem dX10_goCourse_121 : decode cX10_goCourse 121 = .ok (.iadd, 1) := by decide +kernel
theorem dX10_goCourse_122 : decode cX10_goCourse 122 = .ok (.putfield 378, 3) := by decide +kernel
theorem dX10_goCourse_125 : decode cX10_goCourse 125 = .ok (.aload_n 0, 1) := by decide +kernel
theorem dX10_goCourse_126 : decode cX10_goCourse 126 = .ok (.iconst (-1), 1) := by decide +kernel
theorem dX10_goCourse_127 : decode cX10_goCourse 127 = .ok (.invokevirtual 235, 3) := by decide +kernel
theorem dX10_goCourse_130 : decode cX10_goCourse 130 = .ok (.aload_n 0, 1) := by decide +kernel
theorem dX10_goCourse_131 : decode cX10_goCourse 131 = .ok (.dup, 1) := by decide +kernel
theorem dX10_goCourse_132 : decode cX10_goCourse 132 = .ok (.getfield 375, 3) := by decide +kernel
theorem dX10_goCourse_135 : decode cX10_goCourse 135 = .ok (.iconst 1, 1) := by decide +kernel
theorem dX10_goCourse_136 : decode cX10_goCourse 136 = .ok (.iadd, 1) := by decide +kernel
theorem dX10_goCourse_137 : decode cX10_goCourse 137 = .ok (.putfield 375, 3) := by decide +kernel
theorem dX10_goCourse_140 : decode cX10_goCourse 140 = .ok (.goto (-130), 3) := by decide +kernel
theorem dX10_layCourse_0 : decode cX10_layCourse 0 = .ok (.iconst 0, 1) := by decide +kernel
theorem dX10_layCourse_1 : decode cX10_layCourse 1 = .ok (.istore_n 1, 1) := by decide +kernel
theorem dX10_layCourse_2 : decode cX10_layCourse 2 = .ok (.iload_n 1, 1) := by decide +kernel
theorem dX10_layCourse_3 : decode cX10_layCourse 3 = .ok (.sipush 1052, 3) := by decide +kernel
theorem dX10_layCourse_6 : decode cX10_layCourse 6 = .ok (.if_icmp .ge 23, 3) := by decide +kernel
theorem dX10_layCourse_9 : decode cX10_layCourse 9 = .ok (.aload_n 0, 1) := by decide +kernel
theorem dX10_layCourse_10 : decode cX10_layCourse 10 = .ok (.getfield 84, 3) := by decide +kernel
theorem dX10_layCourse_13 : decode cX10_layCourse 13 = .ok (.iload_n 1, 1) := by decide +kernel
theorem dX10_layCourse_14 : decode cX10_layCourse 14 = .ok (.aload_n 0, 1) := by decide +kernel
theorem dX10_layCourse_15 : decode cX10_layCourse 15 = .ok (.getfield 7, 3) := by decide +kernel
theorem dX10_layCourse_18 : decode cX10_layCourse 18 = .ok (.iconst 2, 1) := by decide +kernel
theorem dX10_layCourse_19 : decode cX10_layCourse 19 = .ok (.iload_n 1, 1) := by decide +kernel
theorem dX10_layCourse_20 : decode cX10_layCourse 20 = .ok (.iadd, 1) := by decide +kernel
theorem dX10_layCourse_21 : decode cX10_layCourse 21 = .ok (.iaload, 1) := by decide +kernel
theorem dX10_layCourse_22 : decode cX10_layCourse 22 = .ok (.iastore, 1) := by decide +kernel
theorem dX10_layCourse_23 : decode cX10_layCourse 23 = .ok (.iinc 1 1, 3) := by decide +kernel
theorem dX10_layCourse_26 : decode cX10_layCourse 26 = .ok (.goto (-24), 3) := by decide +kernel
theorem dX10_layCourse_29 : decode cX10_layCourse 29 = .ok (.aload_n 0, 1) := by decide +kernel
theorem dX10_layCourse_30 : decode cX10_layCourse 30 = .ok (.invokevirtual 396, 3) := by decide +kernel
theorem dX10_layCourse_33 : decode cX10_layCourse 33 = .ok (.iconst 0, 1) := by decide +kernel
theorem dX10_layCourse_34 : decode cX10_layCourse 34 = .ok (.istore_n 1, 1) := by decide +kernel
theorem dX10_layCourse_35 : decode cX10_layCourse 35 = .ok (.iload_n 1, 1) := by decide +kernel
theorem dX10_layCourse_36 : decode cX10_layCourse 36 = .ok (.sipush 1052, 3) := by decide +kernel
theorem dX10_layCourse_39 : decode cX10_layCourse 39 = .ok (.if_icmp .ge 23, 3) := by decide +kernel
theorem dX10_layCourse_42 : decode cX10_layCourse 42 = .ok (.aload_n 0, 1) := by decide +kernel
theorem dX10_layCourse_43 : decode cX10_layCourse 43 = .ok (.getfield 7, 3) := by decide +kernel
theorem dX10_layCourse_46 : decode cX10_layCourse 46 = .ok (.iconst 2, 1) := by decide +kernel
theorem dX10_layCourse_47 : decode cX10_layCourse 47 = .ok (.iload_n 1, 1) := by decide +kernel
theorem dX10_layCourse_48 : decode cX10_layCourse 48 = .ok (.iadd, 1) := by decide +kernel
theorem dX10_layCourse_49 : decode cX10_layCourse 49 = .ok (.aload_n 0, 1) := by decide +kernel
theorem dX10_layCourse_50 : decode cX10_layCourse 50 = .ok (.getfield 84, 3) := by decide +kernel
theorem dX10_layCourse_53 : decode cX10_layCourse 53 = .ok (.iload_n 1, 1) := by decide +kernel
theorem dX10_layCourse_54 : decode cX10_layCourse 54 = .ok (.iaload, 1) := by decide +kernel
theorem dX10_layCourse_55 : decode cX10_layCourse 55 = .ok (.iastore, 1) := by decide +kernel
theorem dX10_layCourse_56 : decode cX10_layCourse 56 = .ok (.iinc 1 1, 3) := by decide +kernel
theorem dX10_layCourse_59 : decode cX10_layCourse 59 = .ok (.goto (-24), 3) := by decide +kernel
theorem dX10_layCourse_62 : decode cX10_layCourse 62 = .ok (.return_, 1) := by decide +kernel
theorem dX10_madeFrom_0 : decode cX10_madeFrom 0 = .ok (.iconst 0, 1) := by decide +kernel
theorem dX10_madeFrom_1 : decode cX10_madeFrom 1 = .ok (.istore_n 2, 1) := by decide +kernel
theorem dX10_madeFrom_2 : decode cX10_madeFrom 2 = .ok (.iload_n 1, 1) := by decide +kernel
theorem dX10_madeFrom_3 : decode cX10_madeFrom 3 = .ok (.istore_n 3, 1) := by decide +kernel
theorem dX10_madeFrom_4 : decode cX10_madeFrom 4 = .ok (.iload_n 3, 1) := by decide +kernel
theorem dX10_madeFrom_5 : decode cX10_madeFrom 5 = .ok (.aload_n 0, 1) := by decide +kernel
theorem dX10_madeFrom_6 : decode cX10_madeFrom 6 = .ok (.getfield 375, 3) := by decide +kernel
theorem dX10_madeFrom_9 : decode cX10_madeFrom 9 = .ok (.if_icmp .ge 18, 3) := by decide +kernel
theorem dX10_madeFrom_12 : decode cX10_madeFrom 12 = .ok (.iload_n 2, 1) := by decide +kernel
theorem dX10_madeFrom_13 : decode cX10_madeFrom 13 = .ok (.aload_n 0, 1) := by decide +kernel
theorem dX10_madeFrom_14 : decode cX10_madeFrom 14 = .ok (.getfield 96, 3) := by decide +kernel
theorem dX10_madeFrom_17 : decode cX10_madeFrom 17 = .ok (.iload_n 3, 1) := by decide +kernel
theorem dX10_madeFrom_18 : decode cX10_madeFrom 18 = .ok (.iaload, 1) := by decide +kernel
theorem dX10_madeFrom_19 : decode cX10_madeFrom 19 = .ok (.ior, 1) := by decide +kernel
theorem dX10_madeFrom_20 : decode cX10_madeFrom 20 = .ok (.istore_n 2, 1) := by decide +kernel
theorem dX10_madeFrom_21 : decode cX10_madeFrom 21 = .ok (.iinc 3 1, 3) := by decide +kernel
theorem dX10_madeFrom_24 : decode cX10_madeFrom 24 = .ok (.goto (-20), 3) := by decide +kernel
theorem dX10_madeFrom_27 : decode cX10_madeFrom 27 = .ok (.iload_n 2, 1) := by decide +kernel
theorem dX10_madeFrom_28 : decode cX10_madeFrom 28 = .ok (.ireturn, 1) := by decide +kernel
theorem dX10_circling_0 : decode cX10_circling 0 = .ok (.aload_n 0, 1) := by decide +kernel
theorem dX10_circling_1 : decode cX10_circling 1 = .ok (.invokevirtual 399, 3) := by decide +kernel
theorem dX10_circling_4 : decode cX10_circling 4 = .ok (.aload_n 0, 1) := by decide +kernel
theorem dX10_circling_5 : decode cX10_circling 5 = .ok (.getfield 390, 3) := by decide +kernel
theorem dX10_circling_8 : decode cX10_circling 8 = .ok (.iconst 1, 1) := by decide +kernel
theorem dX10_circling_9 : decode cX10_circling 9 = .ok (.if_icmp .ne 14, 3) := by decide +kernel
theorem dX10_circling_12 : decode cX10_circling 12 = .ok (.aload_n 0, 1) := by decide +kernel
theorem dX10_circling_13 : decode cX10_circling 13 = .ok (.aload_n 0, 1) := by decide +kernel
theorem dX10_circling_14 : decode cX10_circling 14 = .ok (.getfield 387, 3) := by decide +kernel
theorem dX10_circling_17 : decode cX10_circling 17 = .ok (.invokevirtual 402, 3) := by decide +kernel
theorem dX10_circling_20 : decode cX10_circling 20 = .ok (.goto 4, 3) := by decide +kernel
theorem dX10_circling_23 : decode cX10_circling 23 = .ok (.iconst 0, 1) := by decide +kernel
theorem dX10_circling_24 : decode cX10_circling 24 = .ok (.ireturn, 1) := by decide +kernel
theorem dX10_course_0 : decode cX10_course 0 = .ok (.aload_n 0, 1) := by decide +kernel
theorem dX10_course_1 : decode cX10_course 1 = .ok (.invokevirtual 399, 3) := by decide +kernel
theorem dX10_course_4 : decode cX10_course 4 = .ok (.iload_n 1, 1) := by decide +kernel
theorem dX10_course_5 : decode cX10_course 5 = .ok (.tableswitch 91 0 5 #[39, 44, 49, 54, 76, 86], 39) := by decide +kernel
theorem dX10_course_44 : decode cX10_course 44 = .ok (.aload_n 0, 1) := by decide +kernel
theorem dX10_course_45 : decode cX10_course 45 = .ok (.getfield 390, 3) := by decide +kernel
theorem dX10_course_48 : decode cX10_course 48 = .ok (.ireturn, 1) := by decide +kernel
theorem dX10_course_49 : decode cX10_course 49 = .ok (.aload_n 0, 1) := by decide +kernel
theorem dX10_course_50 : decode cX10_course 50 = .ok (.getfield 375, 3) := by decide +kernel
theorem dX10_course_53 : decode cX10_course 53 = .ok (.ireturn, 1) := by decide +kernel
theorem dX10_course_54 : decode cX10_course 54 = .ok (.aload_n 0, 1) := by decide +kernel
theorem dX10_course_55 : decode cX10_course 55 = .ok (.getfield 387, 3) := by decide +kernel
theorem dX10_course_58 : decode cX10_course 58 = .ok (.ireturn, 1) := by decide +kernel
theorem dX10_course_59 : decode cX10_course 59 = .ok (.aload_n 0, 1) := by decide +kernel
theorem dX10_course_60 : decode cX10_course 60 = .ok (.getfield 390, 3) := by decide +kernel
theorem dX10_course_63 : decode cX10_course 63 = .ok (.iconst 1, 1) := by decide +kernel
theorem dX10_course_64 : decode cX10_course 64 = .ok (.if_icmp .ne 15, 3) := by decide +kernel
theorem dX10_course_67 : decode cX10_course 67 = .ok (.aload_n 0, 1) := by decide +kernel
theorem dX10_course_68 : decode cX10_course 68 = .ok (.getfield 375, 3) := by decide +kernel
theorem dX10_course_71 : decode cX10_course 71 = .ok (.aload_n 0, 1) := by decide +kernel
theorem dX10_course_72 : decode cX10_course 72 = .ok (.getfield 387, 3) := by decide +kernel
theorem dX10_course_75 : decode cX10_course 75 = .ok (.isub, 1) := by decide +kernel
theorem dX10_course_76 : decode cX10_course 76 = .ok (.goto 4, 3) := by decide +kernel
theorem dX10_course_79 : decode cX10_course 79 = .ok (.iconst (-1), 1) := by decide +kernel
theorem dX10_course_80 : decode cX10_course 80 = .ok (.ireturn, 1) := by decide +kernel
theorem dX10_course_81 : decode cX10_course 81 = .ok (.aload_n 0, 1) := by decide +kernel
theorem dX10_course_82 : decode cX10_course 82 = .ok (.getfield 87, 3) := by decide +kernel
theorem dX10_course_85 : decode cX10_course 85 = .ok (.aload_n 0, 1) := by decide +kernel
theorem dX10_course_86 : decode cX10_course 86 = .ok (.getfield 375, 3) := by decide +kernel
theorem dX10_course_89 : decode cX10_course 89 = .ok (.iaload, 1) := by decide +kernel
theorem dX10_course_90 : decode cX10_course 90 = .ok (.ireturn, 1) := by decide +kernel
theorem dX10_course_91 : decode cX10_course 91 = .ok (.aload_n 0, 1) := by decide +kernel
theorem dX10_course_92 : decode cX10_course 92 = .ok (.getfield 378, 3) := by decide +kernel
theorem dX10_course_95 : decode cX10_course 95 = .ok (.ireturn, 1) := by decide +kernel
theorem dX10_course_96 : decode cX10_course 96 = .ok (.iconst (-1), 1) := by decide +kernel
theorem dX10_course_97 : decode cX10_course 97 = .ok (.ireturn, 1) := by decide +kernel
theorem dX10_behindRounds_0 : decode cX10_behindRounds 0 = .ok (.aload_n 0, 1) := by decide +kernel
theorem dX10_behindRounds_1 : decode cX10_behindRounds 1 = .ok (.invokevirtual 399, 3) := by decide +kernel
theorem dX10_behindRounds_4 : decode cX10_behindRounds 4 = .ok (.iload_n 1, 1) := by decide +kernel
theorem dX10_behindRounds_5 : decode cX10_behindRounds 5 = .ok (.aload_n 0, 1) := by decide +kernel
theorem dX10_behindRounds_6 : decode cX10_behindRounds 6 = .ok (.getfield 375, 3) := by decide +kernel
theorem dX10_behindRounds_9 : decode cX10_behindRounds 9 = .ok (.if_icmp .ge 7, 3) := by decide +kernel
theorem dX10_behindRounds_12 : decode cX10_behindRounds 12 = .ok (.iload_n 1, 1) := by decide +kernel
theorem dX10_behindRounds_13 : decode cX10_behindRounds 13 = .ok (.goto 7, 3) := by decide +kernel
theorem dX10_behindRounds_16 : decode cX10_behindRounds 16 = .ok (.aload_n 0, 1) := by decide +kernel
theorem dX10_behindRounds_17 : decode cX10_behindRounds 17 = .ok (.getfield 375, 3) := by decide +kernel
theorem dX10_behindRounds_20 : decode cX10_behindRounds 20 = .ok (.ireturn, 1) := by decide +kernel
theorem dX10_later_0 : decode cX10_later 0 = .ok (.iload_n 1, 1) := by decide +kernel
theorem dX10_later_1 : decode cX10_later 1 = .ok (.iconst 0, 1) := by decide +kernel
theorem dX10_later_2 : decode cX10_later 2 = .ok (.bipush 30, 2) := by decide +kernel
theorem dX10_later_4 : decode cX10_later 4 = .ok (.invokestatic 103, 3) := by decide +kernel
theorem dX10_later_7 : decode cX10_later 7 = .ok (.ifCond .ne 5, 3) := by decide +kernel
theorem dX10_later_10 : decode cX10_later 10 = .ok (.iconst (-1), 1) := by decide +kernel
theorem dX10_later_11 : decode cX10_later 11 = .ok (.ireturn, 1) := by decide +kernel
theorem dX10_later_12 : decode cX10_later 12 = .ok (.aload_n 0, 1) := by decide +kernel
theorem dX10_later_13 : decode cX10_later 13 = .ok (.iload_n 1, 1) := by decide +kernel
theorem dX10_later_14 : decode cX10_later 14 = .ok (.invokevirtual 405, 3) := by decide +kernel
theorem dX10_later_17 : decode cX10_later 17 = .ok (.istore_n 3, 1) := by decide +kernel
theorem dX10_later_18 : decode cX10_later 18 = .ok (.iload_n 2, 1) := by decide +kernel
theorem dX10_later_19 : decode cX10_later 19 = .ok (.iconst 0, 1) := by decide +kernel
theorem dX10_later_20 : decode cX10_later 20 = .ok (.aload_n 0, 1) := by decide +kernel
theorem dX10_later_21 : decode cX10_later 21 = .ok (.getfield 87, 3) := by decide +kernel
theorem dX10_later_24 : decode cX10_later 24 = .ok (.iload_n 3, 1) := by decide +kernel
theorem dX10_later_25 : decode cX10_later 25 = .ok (.iaload, 1) := by decide +kernel
theorem dX10_later_26 : decode cX10_later 26 = .ok (.iconst 1, 1) := by decide +kernel
theorem dX10_later_27 : decode cX10_later 27 = .ok (.isub, 1) := by decide +kernel
theorem dX10_later_28 : decode cX10_later 28 = .ok (.invokestatic 103, 3) := by decide +kernel
theorem dX10_later_31 : decode cX10_later 31 = .ok (.ifCond .eq 18, 3) := by decide +kernel
theorem dX10_later_34 : decode cX10_later 34 = .ok (.aload_n 0, 1) := by decide +kernel
theorem dX10_later_35 : decode cX10_later 35 = .ok (.getfield 90, 3) := by decide +kernel
theorem dX10_later_38 : decode cX10_later 38 = .ok (.sipush 200, 3) := by decide +kernel
theorem dX10_later_41 : decode cX10_later 41 = .ok (.iload_n 3, 1) := by decide +kernel
theorem dX10_later_42 : decode cX10_later 42 = .ok (.imul, 1) := by decide +kernel
theorem dX10_later_43 : decode cX10_later 43 = .ok (.iload_n 2, 1) := by decide +kernel
theorem dX10_later_44 : decode cX10_later 44 = .ok (.iadd, 1) := by decide +kernel
theorem dX10_later_45 : decode cX10_later 45 = .ok (.iaload, 1) := by decide +kernel
theorem dX10_later_46 : decode cX10_later 46 = .ok (.goto 4, 3) := by decide +kernel
theorem dX10_later_49 : decode cX10_later 49 = .ok (.iconst (-1), 1) := by decide +kernel
theorem dX10_later_50 : decode cX10_later 50 = .ok (.ireturn, 1) := by decide +kernel
theorem dX10_digest_0 : decode cX10_digest 0 = .ok (.iload_n 1, 1) := by decide +kernel
theorem dX10_digest_1 : decode cX10_digest 1 = .ok (.iconst 0, 1) := by decide +kernel
theorem dX10_digest_2 : decode cX10_digest 2 = .ok (.bipush 30, 2) := by decide +kernel
theorem dX10_digest_4 : decode cX10_digest 4 = .ok (.invokestatic 103, 3) := by decide +kernel
theorem dX10_digest_7 : decode cX10_digest 7 = .ok (.ifCond .ne 5, 3) := by decide +kernel
theorem dX10_digest_10 : decode cX10_digest 10 = .ok (.iconst 0, 1) := by decide +kernel
theorem dX10_digest_11 : decode cX10_digest 11 = .ok (.ireturn, 1) := by decide +kernel
theorem dX10_digest_12 : decode cX10_digest 12 = .ok (.aload_n 0, 1) := by decide +kernel
theorem dX10_digest_13 : decode cX10_digest 13 = .ok (.iload_n 1, 1) := by decide +kernel
theorem dX10_digest_14 : decode cX10_digest 14 = .ok (.invokevirtual 405, 3) := by decide +kernel
theorem dX10_digest_17 : decode cX10_digest 17 = .ok (.istore_n 2, 1) := by decide +kernel
theorem dX10_digest_18 : decode cX10_digest 18 = .ok (.iconst 0, 1) := by decide +kernel
theorem dX10_digest_19 : decode cX10_digest 19 = .ok (.istore_n 3, 1) := by decide +kernel
theorem dX10_digest_20 : decode cX10_digest 20 = .ok (.iconst 0, 1) := by decide +kernel
theorem dX10_digest_21 : decode cX10_digest 21 = .ok (.istore 4, 2) := by decide +kernel
theorem dX10_digest_23 : decode cX10_digest 23 = .ok (.iload 4, 2) := by decide +kernel
theorem dX10_digest_25 : decode cX10_digest 25 = .ok (.aload_n 0, 1) := by decide +kernel
theorem dX10_digest_26 : decode cX10_digest 26 = .ok (.getfield 87, 3) := by decide +kernel
theorem dX10_digest_29 : decode cX10_digest 29 = .ok (.iload_n 2, 1) := by decide +kernel
theorem dX10_digest_30 : decode cX10_digest 30 = .ok (.iaload, 1) := by decide +kernel
theorem dX10_digest_31 : decode cX10_digest 31 = .ok (.if_icmp .ge 28, 3) := by decide +kernel
theorem dX10_digest_34 : decode cX10_digest 34 = .ok (.bipush 31, 2) := by decide +kernel
theorem dX10_digest_36 : decode cX10_digest 36 = .ok (.iload_n 3, 1) := by decide +kernel
theorem dX10_digest_37 : decode cX10_digest 37 = .ok (.imul, 1) := by decide +kernel
theorem dX10_digest_38 : decode cX10_digest 38 = .ok (.aload_n 0, 1) := by decide +kernel
theorem dX10_digest_39 : decode cX10_digest 39 = .ok (.getfield 90, 3) := by decide +kernel
theorem dX10_digest_42 : decode cX10_digest 42 = .ok (.sipush 200, 3) := by decide +kernel
theorem dX10_digest_45 : decode cX10_digest 45 = .ok (.iload_n 2, 1) := by decide +kernel
theorem dX10_digest_46 : decode cX10_digest 46 = .ok (.imul, 1) := by decide +kernel
theorem dX10_digest_47 : decode cX10_digest 47 = .ok (.iload 4, 2) := by decide +kernel
theorem dX10_digest_49 : decode cX10_digest 49 = .ok (.iadd, 1) := by decide +kernel
theorem dX10_digest_50 : decode cX10_digest 50 = .ok (.iaload, 1) := by decide +kernel
theorem dX10_digest_51 : decode cX10_digest 51 = .ok (.iadd, 1) := by decide +kernel
theorem dX10_digest_52 : decode cX10_digest 52 = .ok (.istore_n 3, 1) := by decide +kernel
theorem dX10_digest_53 : decode cX10_digest 53 = .ok (.iinc 4 1, 3) := by decide +kernel
theorem dX10_digest_56 : decode cX10_digest 56 = .ok (.goto (-33), 3) := by decide +kernel
theorem dX10_digest_59 : decode cX10_digest 59 = .ok (.iload_n 3, 1) := by decide +kernel
theorem dX10_digest_60 : decode cX10_digest 60 = .ok (.ireturn, 1) := by decide +kernel
theorem dX10_used_0 : decode cX10_used 0 = .ok (.aload_n 0, 1) := by decide +kernel
theorem dX10_used_1 : decode cX10_used 1 = .ok (.invokevirtual 399, 3) := by decide +kernel
theorem dX10_used_4 : decode cX10_used 4 = .ok (.aload_n 0, 1) := by decide +kernel
theorem dX10_used_5 : decode cX10_used 5 = .ok (.iconst 0, 1) := by decide +kernel
theorem dX10_used_6 : decode cX10_used 6 = .ok (.invokevirtual 402, 3) := by decide +kernel
theorem dX10_used_9 : decode cX10_used 9 = .ok (.ireturn, 1) := by decide +kernel
theorem dX10_many_0 : decode cX10_many 0 = .ok (.iconst 0, 1) := by decide +kernel
theorem dX10_many_1 : decode cX10_many 1 = .ok (.istore_n 1, 1) := by decide +kernel
theorem dX10_many_2 : decode cX10_many 2 = .ok (.iload_n 0, 1) := by decide +kernel
theorem dX10_many_3 : decode cX10_many 3 = .ok (.istore_n 2, 1) := by decide +kernel
theorem dX10_many_4 : decode cX10_many 4 = .ok (.iload_n 2, 1) := by decide +kernel
theorem dX10_many_5 : decode cX10_many 5 = .ok (.ifCond .eq 15, 3) := by decide +kernel
theorem dX10_many_8 : decode cX10_many 8 = .ok (.iinc 1 1, 3) := by decide +kernel
theorem dX10_many_11 : decode cX10_many 11 = .ok (.iload_n 2, 1) := by decide +kernel
theorem dX10_many_12 : decode cX10_many 12 = .ok (.iload_n 2, 1) := by decide +kernel
theorem dX10_many_13 : decode cX10_many 13 = .ok (.iconst 1, 1) := by decide +kernel
theorem dX10_many_14 : decode cX10_many 14 = .ok (.isub, 1) := by decide +kernel
theorem dX10_many_15 : decode cX10_many 15 = .ok (.iand, 1) := by decide +kernel
theorem dX10_many_16 : decode cX10_many 16 = .ok (.istore_n 2, 1) := by decide +kernel
theorem dX10_many_17 : decode cX10_many 17 = .ok (.goto (-13), 3) := by decide +kernel
theorem dX10_many_20 : decode cX10_many 20 = .ok (.iload_n 1, 1) := by decide +kernel
theorem dX10_many_21 : decode cX10_many 21 = .ok (.ireturn, 1) := by decide +kernel
theorem dX10_cure_0 : decode cX10_cure 0 = .ok (.iconst (-1), 1) := by decide +kernel
theorem dX10_cure_1 : decode cX10_cure 1 = .ok (.istore_n 1, 1) := by decide +kernel
theorem dX10_cure_2 : decode cX10_cure 2 = .ok (.aload_n 0, 1) := by decide +kernel
theorem dX10_cure_3 : decode cX10_cure 3 = .ok (.invokevirtual 335, 3) := by decide +kernel
theorem dX10_cure_6 : decode cX10_cure 6 = .ok (.istore_n 2, 1) := by decide +kernel
theorem dX10_cure_7 : decode cX10_cure 7 = .ok (.iconst 0, 1) := by decide +kernel
theorem dX10_cure_8 : decode cX10_cure 8 = .ok (.istore_n 3, 1) := by decide +kernel
theorem dX10_cure_9 : decode cX10_cure 9 = .ok (.iload_n 3, 1) := by decide +kernel
theorem dX10_cure_10 : decode cX10_cure 10 = .ok (.bipush 64, 2) := by decide +kernel
theorem dX10_cure_12 : decode cX10_cure 12 = .ok (.if_icmp .ge 95, 3) := by decide +kernel
theorem dX10_cure_15 : decode cX10_cure 15 = .ok (.iload_n 3, 1) := by decide +kernel
theorem dX10_cure_16 : decode cX10_cure 16 = .ok (.iload_n 2, 1) := by decide +kernel
theorem dX10_cure_17 : decode cX10_cure 17 = .ok (.iconst (-1), 1) := by decide +kernel
theorem dX10_cure_18 : decode cX10_cure 18 = .ok (.ixor, 1) := by decide +kernel
theorem dX10_cure_19 : decode cX10_cure 19 = .ok (.iand, 1) := by decide +kernel
theorem dX10_cure_20 : decode cX10_cure 20 = .ok (.ifCond .ne 81, 3) := by decide +kernel
theorem dX10_cure_23 : decode cX10_cure 23 = .ok (.iload_n 1, 1) := by decide +kernel
theorem dX10_cure_24 : decode cX10_cure 24 = .ok (.iconst (-1), 1) := by decide +kernel
theorem dX10_cure_25 : decode cX10_cure 25 = .ok (.if_icmp .eq 17, 3) := by decide +kernel
theorem dX10_cure_28 : decode cX10_cure 28 = .ok (.iload_n 3, 1) := by decide +kernel
theorem dX10_cure_29 : decode cX10_cure 29 = .ok (.invokestatic 408, 3) := by decide +kernel
theorem dX10_cure_32 : decode cX10_cure 32 = .ok (.iload_n 1, 1) := by decide +kernel
theorem dX10_cure_33 : decode cX10_cure 33 = .ok (.invokestatic 408, 3) := by decide +kernel
theorem dX10_cure_36 : decode cX10_cure 36 = .ok (.if_icmp .lt 6, 3) := by decide +kernel
theorem dX10_cure_39 : decode cX10_cure 39 = .ok (.goto 62, 3) := by decide +kernel
theorem dX10_cure_42 : decode cX10_cure 42 = .ok (.iconst 0, 1) := by decide +kernel
theorem dX10_cure_43 : decode cX10_cure 43 = .ok (.istore 4, 2) := by decide +kernel
theorem dX10_cure_45 : decode cX10_cure 45 = .ok (.iload 4, 2) := by decide +kernel
theorem dX10_cure_47 : decode cX10_cure 47 = .ok (.aload_n 0, 1) := by decide +kernel
theorem dX10_cure_48 : decode cX10_cure 48 = .ok (.getfield 7, 3) := by decide +kernel
theorem dX10_cure_51 : decode cX10_cure 51 = .ok (.iconst 4, 1) := by decide +kernel
theorem dX10_cure_52 : decode cX10_cure 52 = .ok (.iaload, 1) := by decide +kernel
theorem dX10_cure_53 : decode cX10_cure 53 = .ok (.if_icmp .ge 35, 3) := by decide +kernel
theorem dX10_cure_56 : decode cX10_cure 56 = .ok (.aload_n 0, 1) := by decide +kernel
theorem dX10_cure_57 : decode cX10_cure 57 = .ok (.getfield 7, 3) := by decide +kernel
theorem dX10_cure_60 : decode cX10_cure 60 = .ok (.sipush 514, 3) := by decide +kernel
theorem dX10_cure_63 : decode cX10_cure 63 = .ok (.bipush 40, 2) := by decide +kernel
theorem dX10_cure_65 : decode cX10_cure 65 = .ok (.iload 4, 2) := by decide +kernel
theorem dX10_cure_67 : decode cX10_cure 67 = .ok (.imul, 1) := by decide +kernel
theorem dX10_cure_68 : decode cX10_cure 68 = .ok (.iadd, 1) := by decide +kernel
theorem dX10_cure_69 : decode cX10_cure 69 = .ok (.iconst 1, 1) := by decide +kernel
theorem dX10_cure_70 : decode cX10_cure 70 = .ok (.iadd, 1) := by decide +kernel
theorem dX10_cure_71 : decode cX10_cure 71 = .ok (.iload_n 2, 1) := by decide +kernel
theorem dX10_cure_72 : decode cX10_cure 72 = .ok (.iload_n 3, 1) := by decide +kernel
theorem dX10_cure_73 : decode cX10_cure 73 = .ok (.iconst (-1), 1) := by decide +kernel
theorem dX10_cure_74 : decode cX10_cure 74 = .ok (.ixor, 1) := by decide +kernel
theorem dX10_cure_75 : decode cX10_cure 75 = .ok (.iand, 1) := by decide +kernel
theorem dX10_cure_76 : decode cX10_cure 76 = .ok (.iload 4, 2) := by decide +kernel
theorem dX10_cure_78 : decode cX10_cure 78 = .ok (.ishr, 1) := by decide +kernel
theorem dX10_cure_79 : decode cX10_cure 79 = .ok (.iconst 1, 1) := by decide +kernel
theorem dX10_cure_80 : decode cX10_cure 80 = .ok (.iand, 1) := by decide +kernel
theorem dX10_cure_81 : decode cX10_cure 81 = .ok (.iastore, 1) := by decide +kernel
theorem dX10_cure_82 : decode cX10_cure 82 = .ok (.iinc 4 1, 3) := by decide +kernel
theorem dX10_cure_85 : decode cX10_cure 85 = .ok (.goto (-40), 3) := by decide +kernel
theorem dX10_cure_88 : decode cX10_cure 88 = .ok (.aload_n 0, 1) := by decide +kernel
theorem dX10_cure_89 : decode cX10_cure 89 = .ok (.invokevirtual 399, 3) := by decide +kernel
theorem dX10_cure_92 : decode cX10_cure 92 = .ok (.aload_n 0, 1) := by decide +kernel
theorem dX10_cure_93 : decode cX10_cure 93 = .ok (.getfield 390, 3) := by decide +kernel
theorem dX10_cure_96 : decode cX10_cure 96 = .ok (.ifCond .ne 5, 3) := by decide +kernel
theorem dX10_cure_99 : decode cX10_cure 99 = .ok (.iload_n 3, 1) := by decide +kernel
theorem dX10_cure_100 : decode cX10_cure 100 = .ok (.istore_n 1, 1) := by decide +kernel
theorem dX10_cure_101 : decode cX10_cure 101 = .ok (.iinc 3 1, 3) := by decide +kernel
theorem dX10_cure_104 : decode cX10_cure 104 = .ok (.goto (-95), 3) := by decide +kernel
theorem dX10_cure_107 : decode cX10_cure 107 = .ok (.iconst 0, 1) := by decide +kernel
theorem dX10_cure_108 : decode cX10_cure 108 = .ok (.istore_n 3, 1) := by decide +kernel
theorem dX10_cure_109 : decode cX10_cure 109 = .ok (.iload_n 3, 1) := by decide +kernel
theorem dX10_cure_110 : decode cX10_cure 110 = .ok (.aload_n 0, 1) := by decide +kernel
theorem dX10_cure_111 : decode cX10_cure 111 = .ok (.getfield 7, 3) := by decide +kernel
theorem dX10_cure_114 : decode cX10_cure 114 = .ok (.iconst 4, 1) := by decide +kernel
theorem dX10_cure_115 : decode cX10_cure 115 = .ok (.iaload, 1) := by decide +kernel
theorem dX10_cure_116 : decode cX10_cure 116 = .ok (.if_icmp .ge 29, 3) := by decide +kernel
theorem dX10_cure_119 : decode cX10_cure 119 = .ok (.aload_n 0, 1) := by decide +kernel
theorem dX10_cure_120 : decode cX10_cure 120 = .ok (.getfield 7, 3) := by decide +kernel
theorem dX10_cure_123 : decode cX10_cure 123 = .ok (.sipush 514, 3) := by decide +kernel
theorem dX10_cure_126 : decode cX10_cure 126 = .ok (.bipush 40, 2) := by decide +kernel
theorem dX10_cure_128 : decode cX10_cure 128 = .ok (.iload_n 3, 1) := by decide +kernel
theorem dX10_cure_129 : decode cX10_cure 129 = .ok (.imul, 1) := by decide +kernel
theorem dX10_cure_130 : decode cX10_cure 130 = .ok (.iadd, 1) := by decide +kernel
theorem dX10_cure_131 : decode cX10_cure 131 = .ok (.iconst 1, 1) := by decide +kernel
theorem dX10_cure_132 : decode cX10_cure 132 = .ok (.iadd, 1) := by decide +kernel
theorem dX10_cure_133 : decode cX10_cure 133 = .ok (.iload_n 2, 1) := by decide +kernel
theorem dX10_cure_134 : decode cX10_cure 134 = .ok (.iload_n 3, 1) := by decide +kernel
theorem dX10_cure_135 : decode cX10_cure 135 = .ok (.ishr, 1) := by decide +kernel
theorem dX10_cure_136 : decode cX10_cure 136 = .ok (.iconst 1, 1) := by decide +kernel
theorem dX10_cure_137 : decode cX10_cure 137 = .ok (.iand, 1) := by decide +kernel
theorem dX10_cure_138 : decode cX10_cure 138 = .ok (.iastore, 1) := by decide +kernel
theorem dX10_cure_139 : decode cX10_cure 139 = .ok (.iinc 3 1, 3) := by decide +kernel
theorem dX10_cure_142 : decode cX10_cure 142 = .ok (.goto (-33), 3) := by decide +kernel
theorem dX10_cure_145 : decode cX10_cure 145 = .ok (.iload_n 1, 1) := by decide +kernel
theorem dX10_cure_146 : decode cX10_cure 146 = .ok (.ireturn, 1) := by decide +kernel
theorem dX10_mean_0 : decode cX10_mean 0 = .ok (.aload_n 0, 1) := by decide +kernel
theorem dX10_mean_1 : decode cX10_mean 1 = .ok (.invokevirtual 229, 3) := by decide +kernel
theorem dX10_mean_4 : decode cX10_mean 4 = .ok (.iconst 0, 1) := by decide +kernel
theorem dX10_mean_5 : decode cX10_mean 5 = .ok (.istore_n 1, 1) := by decide +kernel
theorem dX10_mean_6 : decode cX10_mean 6 = .ok (.iconst 0, 1) := by decide +kernel
theorem dX10_mean_7 : decode cX10_mean 7 = .ok (.istore_n 2, 1) := by decide +kernel
theorem dX10_mean_8 : decode cX10_mean 8 = .ok (.iconst 0, 1) := by decide +kernel
theorem dX10_mean_9 : decode cX10_mean 9 = .ok (.istore_n 3, 1) := by decide +kernel
theorem dX10_mean_10 : decode cX10_mean 10 = .ok (.iload_n 3, 1) := by decide +kernel
theorem dX10_mean_11 : decode cX10_mean 11 = .ok (.aload_n 0, 1) := by decide +kernel
theorem dX10_mean_12 : decode cX10_mean 12 = .ok (.getfield 175, 3) := by decide +kernel
theorem dX10_mean_15 : decode cX10_mean 15 = .ok (.if_icmp .ge 33, 3) := by decide +kernel
theorem dX10_mean_18 : decode cX10_mean 18 = .ok (.aload_n 0, 1) := by decide +kernel
theorem dX10_mean_19 : decode cX10_mean 19 = .ok (.getfield 46, 3) := by decide +kernel
theorem dX10_mean_22 : decode cX10_mean 22 = .ok (.iload_n 3, 1) := by decide +kernel
theorem dX10_mean_23 : decode cX10_mean 23 = .ok (.baload, 1) := by decide +kernel
theorem dX10_mean_24 : decode cX10_mean 24 = .ok (.ifCond .eq 6, 3) := by decide +kernel
theorem dX10_mean_27 : decode cX10_mean 27 = .ok (.goto 15, 3) := by decide +kernel
theorem dX10_mean_30 : decode cX10_mean 30 = .ok (.iload_n 1, 1) := by decide +kernel
theorem dX10_mean_31 : decode cX10_mean 31 = .ok (.aload_n 0, 1) := by decide +kernel
theorem dX10_mean_32 : decode cX10_mean 32 = .ok (.getfield 43, 3) := by decide +kernel
theorem dX10_mean_35 : decode cX10_mean 35 = .ok (.iload_n 3, 1) := by decide +kernel
theorem dX10_mean_36 : decode cX10_mean 36 = .ok (.iaload, 1) := by decide +kernel
theorem dX10_mean_37 : decode cX10_mean 37 = .ok (.iadd, 1) := by decide +kernel
theorem dX10_mean_38 : decode cX10_mean 38 = .ok (.istore_n 1, 1) := by decide +kernel
theorem dX10_mean_39 : decode cX10_mean 39 = .ok (.iinc 2 1, 3) := by decide +kernel
theorem dX10_mean_42 : decode cX10_mean 42 = .ok (.iinc 3 1, 3) := by decide +kernel
theorem dX10_mean_45 : decode cX10_mean 45 = .ok (.goto (-35), 3) := by decide +kernel
theorem dX10_mean_48 : decode cX10_mean 48 = .ok (.iload_n 2, 1) := by decide +kernel
theorem dX10_mean_49 : decode cX10_mean 49 = .ok (.ifCond .ne 7, 3) := by decide +kernel
theorem dX10_mean_52 : decode cX10_mean 52 = .ok (.iconst 0, 1) := by decide +kernel
theorem dX10_mean_53 : decode cX10_mean 53 = .ok (.goto 11, 3) := by decide +kernel
theorem dX10_mean_56 : decode cX10_mean 56 = .ok (.iload_n 1, 1) := by decide +kernel
theorem dX10_mean_57 : decode cX10_mean 57 = .ok (.i2f, 1) := by decide +kernel
theorem dX10_mean_58 : decode cX10_mean 58 = .ok (.iload_n 2, 1) := by decide +kernel
theorem dX10_mean_59 : decode cX10_mean 59 = .ok (.i2f, 1) := by decide +kernel
theorem dX10_mean_60 : decode cX10_mean 60 = .ok (.fdiv, 1) := by decide +kernel
theorem dX10_mean_61 : decode cX10_mean 61 = .ok (.invokestatic 411, 3) := by decide +kernel
theorem dX10_mean_64 : decode cX10_mean 64 = .ok (.ireturn, 1) := by decide +kernel
theorem dX10_share_0 : decode cX10_share 0 = .ok (.aload_n 0, 1) := by decide +kernel
theorem dX10_share_1 : decode cX10_share 1 = .ok (.getfield 7, 3) := by decide +kernel
theorem dX10_share_4 : decode cX10_share 4 = .ok (.iconst 2, 1) := by decide +kernel
theorem dX10_share_5 : decode cX10_share 5 = .ok (.iaload, 1) := by decide +kernel
theorem dX10_share_6 : decode cX10_share 6 = .ok (.ifCond .ne 5, 3) := by decide +kernel
theorem dX10_share_9 : decode cX10_share 9 = .ok (.lconst 0, 1) := by decide +kernel
theorem dX10_share_10 : decode cX10_share 10 = .ok (.lreturn, 1) := by decide +kernel
theorem dX10_share_11 : decode cX10_share 11 = .ok (.aload_n 0, 1) := by decide +kernel
theorem dX10_share_12 : decode cX10_share 12 = .ok (.invokevirtual 229, 3) := by decide +kernel
theorem dX10_share_15 : decode cX10_share 15 = .ok (.iconst 0, 1) := by decide +kernel
theorem dX10_share_16 : decode cX10_share 16 = .ok (.istore_n 1, 1) := by decide +kernel
theorem dX10_share_17 : decode cX10_share 17 = .ok (.iconst 0, 1) := by decide +kernel
theorem dX10_share_18 : decode cX10_share 18 = .ok (.istore_n 2, 1) := by decide +kernel
theorem dX10_share_19 : decode cX10_share 19 = .ok (.iload_n 2, 1) := by decide +kernel
theorem dX10_share_20 : decode cX10_share 20 = .ok (.aload_n 0, 1) := by decide +kernel
theorem dX10_share_21 : decode cX10_share 21 = .ok (.getfield 175, 3) := by decide +kernel
theorem dX10_share_24 : decode cX10_share 24 = .ok (.if_icmp .ge 38, 3) := by decide +kernel
theorem dX10_share_27 : decode cX10_share 27 = .ok (.iload_n 1, 1) := by decide +kernel
theorem dX10_share_28 : decode cX10_share 28 = .ok (.aload_n 0, 1) := by decide +kernel
theorem dX10_share_29 : decode cX10_share 29 = .ok (.getfield 53, 3) := by decide +kernel
theorem dX10_share_32 : decode cX10_share 32 = .ok (.iload_n 2, 1) := by decide +kernel
theorem dX10_share_33 : decode cX10_share 33 = .ok (.baload, 1) := by decide +kernel
theorem dX10_share_34 : decode cX10_share 34 = .ok (.ifCond .eq 19, 3) := by decide +kernel
theorem dX10_share_37 : decode cX10_share 37 = .ok (.aload_n 0, 1) := by decide +kernel
theorem dX10_share_38 : decode cX10_share 38 = .ok (.getfield 34, 3) := by decide +kernel
theorem dX10_share_41 : decode cX10_share 41 = .ok (.iload_n 2, 1) := by decide +kernel
theorem dX10_share_42 : decode cX10_share 42 = .ok (.iaload, 1) := by decide +kernel
theorem dX10_share_43 : decode cX10_share 43 = .ok (.aload_n 0, 1) := by decide +kernel
theorem dX10_share_44 : decode cX10_share 44 = .ok (.getfield 31, 3) := by decide +kernel
theorem dX10_share_47 : decode cX10_share 47 = .ok (.iload_n 2, 1) := by decide +kernel
theorem dX10_share_48 : decode cX10_share 48 = .ok (.iaload, 1) := by decide +kernel
theorem dX10_share_49 : decode cX10_share 49 = .ok (.isub, 1) := by decide +kernel
theorem dX10_share_50 : decode cX10_share 50 = .ok (.goto 4, 3) := by decide +kernel
theorem dX10_share_53 : decode cX10_share 53 = .ok (.iconst 0, 1) := by decide +kernel
theorem dX10_share_54 : decode cX10_share 54 = .ok (.iadd, 1) := by decide +kernel
theorem dX10_share_55 : decode cX10_share 55 = .ok (.istore_n 1, 1) := by decide +kernel
theorem dX10_share_56 : decode cX10_share 56 = .ok (.iinc 2 1, 3) := by decide +kernel
theorem dX10_share_59 : decode cX10_share 59 = .ok (.goto (-40), 3) := by decide +kernel
theorem dX10_share_62 : decode cX10_share 62 = .ok (.iload_n 1, 1) := by decide +kernel
theorem dX10_share_63 : decode cX10_share 63 = .ok (.i2d, 1) := by decide +kernel
theorem dX10_share_64 : decode cX10_share 64 = .ok (.aload_n 0, 1) := by decide +kernel
theorem dX10_share_65 : decode cX10_share 65 = .ok (.getfield 7, 3) := by decide +kernel
theorem dX10_share_68 : decode cX10_share 68 = .ok (.iconst 2, 1) := by decide +kernel
theorem dX10_share_69 : decode cX10_share 69 = .ok (.iaload, 1) := by decide +kernel
theorem dX10_share_70 : decode cX10_share 70 = .ok (.i2d, 1) := by decide +kernel
theorem dX10_share_71 : decode cX10_share 71 = .ok (.ddiv, 1) := by decide +kernel
theorem dX10_share_72 : decode cX10_share 72 = .ok (.invokestatic 417, 3) := by decide +kernel
theorem dX10_share_75 : decode cX10_share 75 = .ok (.lreturn, 1) := by decide +kernel
theorem dX10_image_0 : decode cX10_image 0 = .ok (.aload_n 0, 1) := by decide +kernel
theorem dX10_image_1 : decode cX10_image 1 = .ok (.getfield 7, 3) := by decide +kernel
theorem dX10_image_4 : decode cX10_image 4 = .ok (.aload_n 0, 1) := by decide +kernel
theorem dX10_image_5 : decode cX10_image 5 = .ok (.getfield 13, 3) := by decide +kernel
theorem dX10_image_8 : decode cX10_image 8 = .ok (.invokestatic 99, 3) := by decide +kernel
theorem dX10_image_11 : decode cX10_image 11 = .ok (.aload_n 0, 1) := by decide +kernel
theorem dX10_image_12 : decode cX10_image 12 = .ok (.getfield 7, 3) := by decide +kernel
theorem dX10_image_15 : decode cX10_image 15 = .ok (.iconst 2, 1) := by decide +kernel
theorem dX10_image_16 : decode cX10_image 16 = .ok (.iaload, 1) := by decide +kernel
theorem dX10_image_17 : decode cX10_image 17 = .ok (.ireturn, 1) := by decide +kernel
theorem dX10_back_0 : decode cX10_back 0 = .ok (.aload_n 0, 1) := by decide +kernel
theorem dX10_back_1 : decode cX10_back 1 = .ok (.getfield 13, 3) := by decide +kernel
theorem dX10_back_4 : decode cX10_back 4 = .ok (.aload_n 0, 1) := by decide +kernel
theorem dX10_back_5 : decode cX10_back 5 = .ok (.getfield 7, 3) := by decide +kernel
theorem dX10_back_8 : decode cX10_back 8 = .ok (.invokestatic 99, 3) := by decide +kernel
theorem dX10_back_11 : decode cX10_back 11 = .ok (.aload_n 0, 1) := by decide +kernel
theorem dX10_back_12 : decode cX10_back 12 = .ok (.getfield 7, 3) := by decide +kernel
theorem dX10_back_15 : decode cX10_back 15 = .ok (.iconst 2, 1) := by decide +kernel
theorem dX10_back_16 : decode cX10_back 16 = .ok (.iaload, 1) := by decide +kernel
theorem dX10_back_17 : decode cX10_back 17 = .ok (.ireturn, 1) := by decide +kernel
theorem dX10_steps_0 : decode cX10_steps 0 = .ok (.aload_n 0, 1) := by decide +kernel
theorem dX10_steps_1 : decode cX10_steps 1 = .ok (.getfield 7, 3) := by decide +kernel
theorem dX10_steps_4 : decode cX10_steps 4 = .ok (.iconst 0, 1) := by decide +kernel
theorem dX10_steps_5 : decode cX10_steps 5 = .ok (.iaload, 1) := by decide +kernel
theorem dX10_steps_6 : decode cX10_steps 6 = .ok (.ireturn, 1) := by decide +kernel
theorem dJxe99ae_isNaN_b9ae7_0 : decode cJxe99ae_isNaN_b9ae7 0 = .ok (.dload_n 0, 1) := by decide +kernel
theorem dJxe99ae_isNaN_b9ae7_1 : decode cJxe99ae_isNaN_b9ae7 1 = .ok (.dload_n 0, 1) := by decide +kernel
theorem dJxe99ae_isNaN_b9ae7_2 : decode cJxe99ae_isNaN_b9ae7 2 = .ok (.dcmp .l, 1) := by decide +kernel
theorem dJxe99ae_isNaN_b9ae7_3 : decode cJxe99ae_isNaN_b9ae7 3 = .ok (.ifCond .eq 7, 3) := by decide +kernel
theorem dJxe99ae_isNaN_b9ae7_6 : decode cJxe99ae_isNaN_b9ae7 6 = .ok (.iconst 1, 1) := by decide +kernel
theorem dJxe99ae_isNaN_b9ae7_7 : decode cJxe99ae_isNaN_b9ae7 7 = .ok (.goto 4, 3) := by decide +kernel
theorem dJxe99ae_isNaN_b9ae7_10 : decode cJxe99ae_isNaN_b9ae7 10 = .ok (.iconst 0, 1) := by decide +kernel
theorem dJxe99ae_isNaN_b9ae7_11 : decode cJxe99ae_isNaN_b9ae7 11 = .ok (.ireturn, 1) := by decide +kernel
theorem dJxe99ae_doubleToLongBits_ccdee_0 : decode cJxe99ae_doubleToLongBits_ccdee 0 = .ok (.dload_n 0, 1) := by decide +kernel
theorem dJxe99ae_doubleToLongBits_ccdee_1 : decode cJxe99ae_doubleToLongBits_ccdee 1 = .ok (.invokestatic 122, 3) := by decide +kernel
theorem dJxe99ae_doubleToLongBits_ccdee_4 : decode cJxe99ae_doubleToLongBits_ccdee 4 = .ok (.ifCond .ne 8, 3) := by decide +kernel
theorem dJxe99ae_doubleToLongBits_ccdee_7 : decode cJxe99ae_doubleToLongBits_ccdee 7 = .ok (.dload_n 0, 1) := by decide +kernel
theorem dJxe99ae_doubleToLongBits_ccdee_8 : decode cJxe99ae_doubleToLongBits_ccdee 8 = .ok (.invokestatic 134, 3) := by decide +kernel
theorem dJxe99ae_doubleToLongBits_ccdee_11 : decode cJxe99ae_doubleToLongBits_ccdee 11 = .ok (.lreturn, 1) := by decide +kernel
theorem dJxe99ae_doubleToLongBits_ccdee_12 : decode cJxe99ae_doubleToLongBits_ccdee 12 = .ok (.ldc2_w 137, 3) := by decide +kernel
theorem dJxe99ae_doubleToLongBits_ccdee_15 : decode cJxe99ae_doubleToLongBits_ccdee 15 = .ok (.lreturn, 1) := by decide +kernel
theorem dJxf58ca_isNaN_12338_0 : decode cJxf58ca_isNaN_12338 0 = .ok (.fload_n 0, 1) := by decide +kernel
theorem dJxf58ca_isNaN_12338_1 : decode cJxf58ca_isNaN_12338 1 = .ok (.fload_n 0, 1) := by decide +kernel
theorem dJxf58ca_isNaN_12338_2 : decode cJxf58ca_isNaN_12338 2 = .ok (.fcmp .l, 1) := by decide +kernel
theorem dJxf58ca_isNaN_12338_3 : decode cJxf58ca_isNaN_12338 3 = .ok (.ifCond .eq 7, 3) := by decide +kernel
theorem dJxf58ca_isNaN_12338_6 : decode cJxf58ca_isNaN_12338 6 = .ok (.iconst 1, 1) := by decide +kernel
theorem dJxf58ca_isNaN_12338_7 : decode cJxf58ca_isNaN_12338 7 = .ok (.goto 4, 3) := by decide +kernel
theorem dJxf58ca_isNaN_12338_10 : decode cJxf58ca_isNaN_12338 10 = .ok (.iconst 0, 1) := by decide +kernel
theorem dJxf58ca_isNaN_12338_11 : decode cJxf58ca_isNaN_12338 11 = .ok (.ireturn, 1) := by decide +kernel
theorem dJxf58ca_floatToIntBits_5c35a_0 : decode cJxf58ca_floatToIntBits_5c35a 0 = .ok (.fload_n 0, 1) := by decide +kernel
theorem dJxf58ca_floatToIntBits_5c35a_1 : decode cJxf58ca_floatToIntBits_5c35a 1 = .ok (.invokestatic 59, 3) := by decide +kernel
theorem dJxf58ca_floatToIntBits_5c35a_4 : decode cJxf58ca_floatToIntBits_5c35a 4 = .ok (.ifCond .ne 8, 3) := by decide +kernel
theorem dJxf58ca_floatToIntBits_5c35a_7 : decode cJxf58ca_floatToIntBits_5c35a 7 = .ok (.fload_n 0, 1) := by decide +kernel
theorem dJxf58ca_floatToIntBits_5c35a_8 : decode cJxf58ca_floatToIntBits_5c35a 8 = .ok (.invokestatic 74, 3) := by decide +kernel
theorem dJxf58ca_floatToIntBits_5c35a_11 : decode cJxf58ca_floatToIntBits_5c35a 11 = .ok (.ireturn, 1) := by decide +kernel
theorem dJxf58ca_floatToIntBits_5c35a_12 : decode cJxf58ca_floatToIntBits_5c35a 12 = .ok (.ldc 77, 2) := by decide +kernel
theorem dJxf58ca_floatToIntBits_5c35a_14 : decode cJxf58ca_floatToIntBits_5c35a 14 = .ok (.ireturn, 1) := by decide +kernel
theorem dJ6_bitCount_0f7a4_0 : decode cJ6_bitCount_0f7a4 0 = .ok (.iload_n 0, 1) := by decide +kernel
theorem dJ6_bitCount_0f7a4_1 : decode cJ6_bitCount_0f7a4 1 = .ok (.iload_n 0, 1) := by decide +kernel
theorem dJ6_bitCount_0f7a4_2 : decode cJ6_bitCount_0f7a4 2 = .ok (.iconst 1, 1) := by decide +kernel
theorem dJ6_bitCount_0f7a4_3 : decode cJ6_bitCount_0f7a4 3 = .ok (.iushr, 1) := by decide +kernel
theorem dJ6_bitCount_0f7a4_4 : decode cJ6_bitCount_0f7a4 4 = .ok (.ldc_w 265, 3) := by decide +kernel
theorem dJ6_bitCount_0f7a4_7 : decode cJ6_bitCount_0f7a4 7 = .ok (.iand, 1) := by decide +kernel
theorem dJ6_bitCount_0f7a4_8 : decode cJ6_bitCount_0f7a4 8 = .ok (.isub, 1) := by decide +kernel
theorem dJ6_bitCount_0f7a4_9 : decode cJ6_bitCount_0f7a4 9 = .ok (.istore_n 0, 1) := by decide +kernel
theorem dJ6_bitCount_0f7a4_10 : decode cJ6_bitCount_0f7a4 10 = .ok (.iload_n 0, 1) := by decide +kernel
theorem dJ6_bitCount_0f7a4_11 : decode cJ6_bitCount_0f7a4 11 = .ok (.ldc_w 266, 3) := by decide +kernel
theorem dJ6_bitCount_0f7a4_14 : decode cJ6_bitCount_0f7a4 14 = .ok (.iand, 1) := by decide +kernel
theorem dJ6_bitCount_0f7a4_15 : decode cJ6_bitCount_0f7a4 15 = .ok (.iload_n 0, 1) := by decide +kernel
theorem dJ6_bitCount_0f7a4_16 : decode cJ6_bitCount_0f7a4 16 = .ok (.iconst 2, 1) := by decide +kernel
theorem dJ6_bitCount_0f7a4_17 : decode cJ6_bitCount_0f7a4 17 = .ok (.iushr, 1) := by decide +kernel
theorem dJ6_bitCount_0f7a4_18 : decode cJ6_bitCount_0f7a4 18 = .ok (.ldc_w 266, 3) := by decide +kernel
theorem dJ6_bitCount_0f7a4_21 : decode cJ6_bitCount_0f7a4 21 = .ok (.iand, 1) := by decide +kernel
theorem dJ6_bitCount_0f7a4_22 : decode cJ6_bitCount_0f7a4 22 = .ok (.iadd, 1) := by decide +kernel
theorem dJ6_bitCount_0f7a4_23 : decode cJ6_bitCount_0f7a4 23 = .ok (.istore_n 0, 1) := by decide +kernel
theorem dJ6_bitCount_0f7a4_24 : decode cJ6_bitCount_0f7a4 24 = .ok (.iload_n 0, 1) := by decide +kernel
theorem dJ6_bitCount_0f7a4_25 : decode cJ6_bitCount_0f7a4 25 = .ok (.iload_n 0, 1) := by decide +kernel
theorem dJ6_bitCount_0f7a4_26 : decode cJ6_bitCount_0f7a4 26 = .ok (.iconst 4, 1) := by decide +kernel
theorem dJ6_bitCount_0f7a4_27 : decode cJ6_bitCount_0f7a4 27 = .ok (.iushr, 1) := by decide +kernel
theorem dJ6_bitCount_0f7a4_28 : decode cJ6_bitCount_0f7a4 28 = .ok (.iadd, 1) := by decide +kernel
theorem dJ6_bitCount_0f7a4_29 : decode cJ6_bitCount_0f7a4 29 = .ok (.ldc_w 267, 3) := by decide +kernel
theorem dJ6_bitCount_0f7a4_32 : decode cJ6_bitCount_0f7a4 32 = .ok (.iand, 1) := by decide +kernel
theorem dJ6_bitCount_0f7a4_33 : decode cJ6_bitCount_0f7a4 33 = .ok (.istore_n 0, 1) := by decide +kernel
theorem dJ6_bitCount_0f7a4_34 : decode cJ6_bitCount_0f7a4 34 = .ok (.iload_n 0, 1) := by decide +kernel
theorem dJ6_bitCount_0f7a4_35 : decode cJ6_bitCount_0f7a4 35 = .ok (.iload_n 0, 1) := by decide +kernel
theorem dJ6_bitCount_0f7a4_36 : decode cJ6_bitCount_0f7a4 36 = .ok (.bipush 8, 2) := by decide +kernel
theorem dJ6_bitCount_0f7a4_38 : decode cJ6_bitCount_0f7a4 38 = .ok (.iushr, 1) := by decide +kernel
theorem dJ6_bitCount_0f7a4_39 : decode cJ6_bitCount_0f7a4 39 = .ok (.iadd, 1) := by decide +kernel
theorem dJ6_bitCount_0f7a4_40 : decode cJ6_bitCount_0f7a4 40 = .ok (.istore_n 0, 1) := by decide +kernel
theorem dJ6_bitCount_0f7a4_41 : decode cJ6_bitCount_0f7a4 41 = .ok (.iload_n 0, 1) := by decide +kernel
theorem dJ6_bitCount_0f7a4_42 : decode cJ6_bitCount_0f7a4 42 = .ok (.iload_n 0, 1) := by decide +kernel
theorem dJ6_bitCount_0f7a4_43 : decode cJ6_bitCount_0f7a4 43 = .ok (.bipush 16, 2) := by decide +kernel
theorem dJ6_bitCount_0f7a4_45 : decode cJ6_bitCount_0f7a4 45 = .ok (.iushr, 1) := by decide +kernel
theorem dJ6_bitCount_0f7a4_46 : decode cJ6_bitCount_0f7a4 46 = .ok (.iadd, 1) := by decide +kernel
theorem dJ6_bitCount_0f7a4_47 : decode cJ6_bitCount_0f7a4 47 = .ok (.istore_n 0, 1) := by decide +kernel
theorem dJ6_bitCount_0f7a4_48 : decode cJ6_bitCount_0f7a4 48 = .ok (.iload_n 0, 1) := by decide +kernel
theorem dJ6_bitCount_0f7a4_49 : decode cJ6_bitCount_0f7a4 49 = .ok (.bipush 63, 2) := by decide +kernel
theorem dJ6_bitCount_0f7a4_51 : decode cJ6_bitCount_0f7a4 51 = .ok (.iand, 1) := by decide +kernel
theorem dJ6_bitCount_0f7a4_52 : decode cJ6_bitCount_0f7a4 52 = .ok (.ireturn, 1) := by decide +kernel
theorem dJ9_floorMod_7cf53_0 : decode cJ9_floorMod_7cf53 0 = .ok (.iload_n 0, 1) := by decide +kernel
theorem dJ9_floorMod_7cf53_1 : decode cJ9_floorMod_7cf53 1 = .ok (.iload_n 1, 1) := by decide +kernel
theorem dJ9_floorMod_7cf53_2 : decode cJ9_floorMod_7cf53 2 = .ok (.irem, 1) := by decide +kernel
theorem dJ9_floorMod_7cf53_3 : decode cJ9_floorMod_7cf53 3 = .ok (.istore_n 2, 1) := by decide +kernel
theorem dJ9_floorMod_7cf53_4 : decode cJ9_floorMod_7cf53 4 = .ok (.iload_n 0, 1) := by decide +kernel
theorem dJ9_floorMod_7cf53_5 : decode cJ9_floorMod_7cf53 5 = .ok (.iload_n 1, 1) := by decide +kernel
theorem dJ9_floorMod_7cf53_6 : decode cJ9_floorMod_7cf53 6 = .ok (.ixor, 1) := by decide +kernel
theorem dJ9_floorMod_7cf53_7 : decode cJ9_floorMod_7cf53 7 = .ok (.ifCond .ge 11, 3) := by decide +kernel
theorem dJ9_floorMod_7cf53_10 : decode cJ9_floorMod_7cf53 10 = .ok (.iload_n 2, 1) := by decide +kernel
theorem dJ9_floorMod_7cf53_11 : decode cJ9_floorMod_7cf53 11 = .ok (.ifCond .eq 7, 3) := by decide +kernel
theorem dJ9_floorMod_7cf53_14 : decode cJ9_floorMod_7cf53 14 = .ok (.iload_n 2, 1) := by decide +kernel
theorem dJ9_floorMod_7cf53_15 : decode cJ9_floorMod_7cf53 15 = .ok (.iload_n 1, 1) := by decide +kernel
theorem dJ9_floorMod_7cf53_16 : decode cJ9_floorMod_7cf53 16 = .ok (.iadd, 1) := by decide +kernel
theorem dJ9_floorMod_7cf53_17 : decode cJ9_floorMod_7cf53 17 = .ok (.ireturn, 1) := by decide +kernel
theorem dJ9_floorMod_7cf53_18 : decode cJ9_floorMod_7cf53 18 = .ok (.iload_n 2, 1) := by decide +kernel
theorem dJ9_floorMod_7cf53_19 : decode cJ9_floorMod_7cf53 19 = .ok (.ireturn, 1) := by decide +kernel
theorem dJ9_max_7cf53_0 : decode cJ9_max_7cf53 0 = .ok (.iload_n 0, 1) := by decide +kernel
theorem dJ9_max_7cf53_1 : decode cJ9_max_7cf53 1 = .ok (.iload_n 1, 1) := by decide +kernel
theorem dJ9_max_7cf53_2 : decode cJ9_max_7cf53 2 = .ok (.if_icmp .lt 7, 3) := by decide +kernel
theorem dJ9_max_7cf53_5 : decode cJ9_max_7cf53 5 = .ok (.iload_n 0, 1) := by decide +kernel
theorem dJ9_max_7cf53_6 : decode cJ9_max_7cf53 6 = .ok (.goto 4, 3) := by decide +kernel
theorem dJ9_max_7cf53_9 : decode cJ9_max_7cf53 9 = .ok (.iload_n 1, 1) := by decide +kernel
theorem dJ9_max_7cf53_10 : decode cJ9_max_7cf53 10 = .ok (.ireturn, 1) := by decide +kernel
theorem dJ9_min_7cf53_0 : decode cJ9_min_7cf53 0 = .ok (.iload_n 0, 1) := by decide +kernel
theorem dJ9_min_7cf53_1 : decode cJ9_min_7cf53 1 = .ok (.iload_n 1, 1) := by decide +kernel
theorem dJ9_min_7cf53_2 : decode cJ9_min_7cf53 2 = .ok (.if_icmp .gt 7, 3) := by decide +kernel
theorem dJ9_min_7cf53_5 : decode cJ9_min_7cf53 5 = .ok (.iload_n 0, 1) := by decide +kernel
theorem dJ9_min_7cf53_6 : decode cJ9_min_7cf53 6 = .ok (.goto 4, 3) := by decide +kernel
theorem dJ9_min_7cf53_9 : decode cJ9_min_7cf53 9 = .ok (.iload_n 1, 1) := by decide +kernel
theorem dJ9_min_7cf53_10 : decode cJ9_min_7cf53 10 = .ok (.ireturn, 1) := by decide +kernel
theorem dL_law_0 : decode cL_law 0 = .ok (.new 7, 3) := by decide +kernel
theorem dL_law_3 : decode cL_law 3 = .ok (.dup, 1) := by decide +kernel
theorem dL_law_4 : decode cL_law 4 = .ok (.invokespecial 9, 3) := by decide +kernel
theorem dL_law_7 : decode cL_law 7 = .ok (.astore_n 1, 1) := by decide +kernel
theorem dL_law_8 : decode cL_law 8 = .ok (.new 10, 3) := by decide +kernel
theorem dL_law_11 : decode cL_law 11 = .ok (.dup, 1) := by decide +kernel
theorem dL_law_12 : decode cL_law 12 = .ok (.invokespecial 12, 3) := by decide +kernel
theorem dL_law_15 : decode cL_law 15 = .ok (.astore_n 2, 1) := by decide +kernel
