theorem dX9_span_6 : decode cX9_span 6 = .ok (.iload_n 1, 1) := by decide +kernel
theorem dX9_span_7 : decode cX9_span 7 = .ok (.invokevirtual 129, 3) := by decide +kernel
theorem dX9_span_10 : decode cX9_span 10 = .ok (.ifCond .eq 12, 3) := by decide +kernel
theorem dX9_span_13 : decode cX9_span 13 = .ok (.aload_n 3, 1) := by decide +kernel
theorem dX9_span_14 : decode cX9_span 14 = .ok (.iload_n 1, 1) := by decide +kernel
theorem dX9_span_15 : decode cX9_span 15 = .ok (.iload_n 2, 1) := by decide +kernel
theorem dX9_span_16 : decode cX9_span 16 = .ok (.invokevirtual 268, 3) := by decide +kernel
theorem dX9_span_19 : decode cX9_span 19 = .ok (.ifCond .ne 5, 3) := by decide +kernel
theorem dX9_span_22 : decode cX9_span 22 = .ok (.iconst (-1), 1) := by decide +kernel
theorem dX9_span_23 : decode cX9_span 23 = .ok (.ireturn, 1) := by decide +kernel
theorem dX9_span_24 : decode cX9_span 24 = .ok (.iload_n 2, 1) := by decide +kernel
theorem dX9_span_25 : decode cX9_span 25 = .ok (.aload_n 0, 1) := by decide +kernel
theorem dX9_span_26 : decode cX9_span 26 = .ok (.getfield 59, 3) := by decide +kernel
theorem dX9_span_29 : decode cX9_span 29 = .ok (.getfield 117, 3) := by decide +kernel
theorem dX9_span_32 : decode cX9_span 32 = .ok (.getfield 259, 3) := by decide +kernel
theorem dX9_span_35 : decode cX9_span 35 = .ok (.iload_n 1, 1) := by decide +kernel
theorem dX9_span_36 : decode cX9_span 36 = .ok (.iaload, 1) := by decide +kernel
theorem dX9_span_37 : decode cX9_span 37 = .ok (.iadd, 1) := by decide +kernel
theorem dX9_span_38 : decode cX9_span 38 = .ok (.istore 4, 2) := by decide +kernel
theorem dX9_span_40 : decode cX9_span 40 = .ok (.aload_n 3, 1) := by decide +kernel
theorem dX9_span_41 : decode cX9_span 41 = .ok (.getfield 221, 3) := by decide +kernel
theorem dX9_span_44 : decode cX9_span 44 = .ok (.getfield 250, 3) := by decide +kernel
theorem dX9_span_47 : decode cX9_span 47 = .ok (.iload 4, 2) := by decide +kernel
theorem dX9_span_49 : decode cX9_span 49 = .ok (.iaload, 1) := by decide +kernel
theorem dX9_span_50 : decode cX9_span 50 = .ok (.aload_n 3, 1) := by decide +kernel
theorem dX9_span_51 : decode cX9_span 51 = .ok (.getfield 221, 3) := by decide +kernel
theorem dX9_span_54 : decode cX9_span 54 = .ok (.getfield 250, 3) := by decide +kernel
theorem dX9_span_57 : decode cX9_span 57 = .ok (.iload_n 2, 1) := by decide +kernel
theorem dX9_span_58 : decode cX9_span 58 = .ok (.iaload, 1) := by decide +kernel
theorem dX9_span_59 : decode cX9_span 59 = .ok (.isub, 1) := by decide +kernel
theorem dX9_span_60 : decode cX9_span 60 = .ok (.ireturn, 1) := by decide +kernel
theorem dX9_silenced_0 : decode cX9_silenced 0 = .ok (.aload_n 0, 1) := by decide +kernel
theorem dX9_silenced_1 : decode cX9_silenced 1 = .ok (.getfield 59, 3) := by decide +kernel
theorem dX9_silenced_4 : decode cX9_silenced 4 = .ok (.getfield 103, 3) := by decide +kernel
theorem dX9_silenced_7 : decode cX9_silenced 7 = .ok (.astore_n 3, 1) := by decide +kernel
theorem dX9_silenced_8 : decode cX9_silenced 8 = .ok (.iload_n 1, 1) := by decide +kernel
theorem dX9_silenced_9 : decode cX9_silenced 9 = .ok (.ifCond .lt 11, 3) := by decide +kernel
theorem dX9_silenced_12 : decode cX9_silenced 12 = .ok (.iload_n 1, 1) := by decide +kernel
theorem dX9_silenced_13 : decode cX9_silenced 13 = .ok (.aload_n 3, 1) := by decide +kernel
theorem dX9_silenced_14 : decode cX9_silenced 14 = .ok (.getfield 141, 3) := by decide +kernel
theorem dX9_silenced_17 : decode cX9_silenced 17 = .ok (.if_icmp .lt 5, 3) := by decide +kernel
theorem dX9_silenced_20 : decode cX9_silenced 20 = .ok (.iconst (-1), 1) := by decide +kernel
theorem dX9_silenced_21 : decode cX9_silenced 21 = .ok (.ireturn, 1) := by decide +kernel
theorem dX9_silenced_22 : decode cX9_silenced 22 = .ok (.iload_n 2, 1) := by decide +kernel
theorem dX9_silenced_23 : decode cX9_silenced 23 = .ok (.ifCond .ne 10, 3) := by decide +kernel
theorem dX9_silenced_26 : decode cX9_silenced 26 = .ok (.aload_n 3, 1) := by decide +kernel
theorem dX9_silenced_27 : decode cX9_silenced 27 = .ok (.getfield 312, 3) := by decide +kernel
theorem dX9_silenced_30 : decode cX9_silenced 30 = .ok (.iload_n 1, 1) := by decide +kernel
theorem dX9_silenced_31 : decode cX9_silenced 31 = .ok (.iaload, 1) := by decide +kernel
theorem dX9_silenced_32 : decode cX9_silenced 32 = .ok (.ireturn, 1) := by decide +kernel
theorem dX9_silenced_33 : decode cX9_silenced 33 = .ok (.iload_n 2, 1) := by decide +kernel
theorem dX9_silenced_34 : decode cX9_silenced 34 = .ok (.iconst 1, 1) := by decide +kernel
theorem dX9_silenced_35 : decode cX9_silenced 35 = .ok (.if_icmp .ne 12, 3) := by decide +kernel
theorem dX9_silenced_38 : decode cX9_silenced 38 = .ok (.aload_n 3, 1) := by decide +kernel
theorem dX9_silenced_39 : decode cX9_silenced 39 = .ok (.getfield 315, 3) := by decide +kernel
theorem dX9_silenced_42 : decode cX9_silenced 42 = .ok (.iload_n 1, 1) := by decide +kernel
theorem dX9_silenced_43 : decode cX9_silenced 43 = .ok (.iaload, 1) := by decide +kernel
theorem dX9_silenced_44 : decode cX9_silenced 44 = .ok (.goto 4, 3) := by decide +kernel
theorem dX9_silenced_47 : decode cX9_silenced 47 = .ok (.iconst (-1), 1) := by decide +kernel
theorem dX9_silenced_48 : decode cX9_silenced 48 = .ok (.ireturn, 1) := by decide +kernel
theorem dX9_isSilent_0 : decode cX9_isSilent 0 = .ok (.aload_n 0, 1) := by decide +kernel
theorem dX9_isSilent_1 : decode cX9_isSilent 1 = .ok (.iload_n 1, 1) := by decide +kernel
theorem dX9_isSilent_2 : decode cX9_isSilent 2 = .ok (.invokevirtual 157, 3) := by decide +kernel
theorem dX9_isSilent_5 : decode cX9_isSilent 5 = .ok (.ifCond .eq 24, 3) := by decide +kernel
theorem dX9_isSilent_8 : decode cX9_isSilent 8 = .ok (.aload_n 0, 1) := by decide +kernel
theorem dX9_isSilent_9 : decode cX9_isSilent 9 = .ok (.getfield 59, 3) := by decide +kernel
theorem dX9_isSilent_12 : decode cX9_isSilent 12 = .ok (.getfield 103, 3) := by decide +kernel
theorem dX9_isSilent_15 : decode cX9_isSilent 15 = .ok (.iload_n 1, 1) := by decide +kernel
theorem dX9_isSilent_16 : decode cX9_isSilent 16 = .ok (.iload_n 1, 1) := by decide +kernel
theorem dX9_isSilent_17 : decode cX9_isSilent 17 = .ok (.iconst 1, 1) := by decide +kernel
theorem dX9_isSilent_18 : decode cX9_isSilent 18 = .ok (.iadd, 1) := by decide +kernel
theorem dX9_isSilent_19 : decode cX9_isSilent 19 = .ok (.invokevirtual 160, 3) := by decide +kernel
theorem dX9_isSilent_22 : decode cX9_isSilent 22 = .ok (.ifCond .eq 7, 3) := by decide +kernel
theorem dX9_isSilent_25 : decode cX9_isSilent 25 = .ok (.iconst 1, 1) := by decide +kernel
theorem dX9_isSilent_26 : decode cX9_isSilent 26 = .ok (.goto 4, 3) := by decide +kernel
theorem dX9_isSilent_29 : decode cX9_isSilent 29 = .ok (.iconst 0, 1) := by decide +kernel
theorem dX9_isSilent_30 : decode cX9_isSilent 30 = .ok (.ireturn, 1) := by decide +kernel
theorem dX9_yielding_0 : decode cX9_yielding 0 = .ok (.iload_n 1, 1) := by decide +kernel
theorem dX9_yielding_1 : decode cX9_yielding 1 = .ok (.ifCond .lt 14, 3) := by decide +kernel
theorem dX9_yielding_4 : decode cX9_yielding 4 = .ok (.iload_n 1, 1) := by decide +kernel
theorem dX9_yielding_5 : decode cX9_yielding 5 = .ok (.aload_n 0, 1) := by decide +kernel
theorem dX9_yielding_6 : decode cX9_yielding 6 = .ok (.getfield 59, 3) := by decide +kernel
theorem dX9_yielding_9 : decode cX9_yielding 9 = .ok (.getfield 170, 3) := by decide +kernel
theorem dX9_yielding_12 : decode cX9_yielding 12 = .ok (.if_icmp .lt 5, 3) := by decide +kernel
theorem dX9_yielding_15 : decode cX9_yielding 15 = .ok (.iconst (-1), 1) := by decide +kernel
theorem dX9_yielding_16 : decode cX9_yielding 16 = .ok (.ireturn, 1) := by decide +kernel
theorem dX9_yielding_17 : decode cX9_yielding 17 = .ok (.bipush 10, 2) := by decide +kernel
theorem dX9_yielding_19 : decode cX9_yielding 19 = .ok (.aload_n 0, 1) := by decide +kernel
theorem dX9_yielding_20 : decode cX9_yielding 20 = .ok (.getfield 59, 3) := by decide +kernel
theorem dX9_yielding_23 : decode cX9_yielding 23 = .ok (.getfield 318, 3) := by decide +kernel
theorem dX9_yielding_26 : decode cX9_yielding 26 = .ok (.iload_n 1, 1) := by decide +kernel
theorem dX9_yielding_27 : decode cX9_yielding 27 = .ok (.iaload, 1) := by decide +kernel
theorem dX9_yielding_28 : decode cX9_yielding 28 = .ok (.imul, 1) := by decide +kernel
theorem dX9_yielding_29 : decode cX9_yielding 29 = .ok (.aload_n 0, 1) := by decide +kernel
theorem dX9_yielding_30 : decode cX9_yielding 30 = .ok (.getfield 59, 3) := by decide +kernel
theorem dX9_yielding_33 : decode cX9_yielding 33 = .ok (.getfield 321, 3) := by decide +kernel
theorem dX9_yielding_36 : decode cX9_yielding 36 = .ok (.iload_n 1, 1) := by decide +kernel
theorem dX9_yielding_37 : decode cX9_yielding 37 = .ok (.iaload, 1) := by decide +kernel
theorem dX9_yielding_38 : decode cX9_yielding 38 = .ok (.iadd, 1) := by decide +kernel
theorem dX9_yielding_39 : decode cX9_yielding 39 = .ok (.ireturn, 1) := by decide +kernel
theorem dX9_paint_0 : decode cX9_paint 0 = .ok (.aload_n 0, 1) := by decide +kernel
theorem dX9_paint_1 : decode cX9_paint 1 = .ok (.iload_n 1, 1) := by decide +kernel
theorem dX9_paint_2 : decode cX9_paint 2 = .ok (.invokevirtual 157, 3) := by decide +kernel
theorem dX9_paint_5 : decode cX9_paint 5 = .ok (.ifCond .eq 18, 3) := by decide +kernel
theorem dX9_paint_8 : decode cX9_paint 8 = .ok (.aload_n 0, 1) := by decide +kernel
theorem dX9_paint_9 : decode cX9_paint 9 = .ok (.getfield 59, 3) := by decide +kernel
theorem dX9_paint_12 : decode cX9_paint 12 = .ok (.getfield 103, 3) := by decide +kernel
theorem dX9_paint_15 : decode cX9_paint 15 = .ok (.getfield 167, 3) := by decide +kernel
theorem dX9_paint_18 : decode cX9_paint 18 = .ok (.iload_n 1, 1) := by decide +kernel
theorem dX9_paint_19 : decode cX9_paint 19 = .ok (.baload, 1) := by decide +kernel
theorem dX9_paint_20 : decode cX9_paint 20 = .ok (.goto 4, 3) := by decide +kernel
theorem dX9_paint_23 : decode cX9_paint 23 = .ok (.iconst (-1), 1) := by decide +kernel
theorem dX9_paint_24 : decode cX9_paint 24 = .ok (.ireturn, 1) := by decide +kernel
theorem dX9_painted_0 : decode cX9_painted 0 = .ok (.aload_n 0, 1) := by decide +kernel
theorem dX9_painted_1 : decode cX9_painted 1 = .ok (.iload_n 1, 1) := by decide +kernel
theorem dX9_painted_2 : decode cX9_painted 2 = .ok (.invokevirtual 129, 3) := by decide +kernel
theorem dX9_painted_5 : decode cX9_painted 5 = .ok (.ifCond .eq 17, 3) := by decide +kernel
theorem dX9_painted_8 : decode cX9_painted 8 = .ok (.aload_n 0, 1) := by decide +kernel
theorem dX9_painted_9 : decode cX9_painted 9 = .ok (.getfield 59, 3) := by decide +kernel
theorem dX9_painted_12 : decode cX9_painted 12 = .ok (.getfield 103, 3) := by decide +kernel
theorem dX9_painted_15 : decode cX9_painted 15 = .ok (.iload_n 1, 1) := by decide +kernel
theorem dX9_painted_16 : decode cX9_painted 16 = .ok (.invokevirtual 324, 3) := by decide +kernel
theorem dX9_painted_19 : decode cX9_painted 19 = .ok (.goto 4, 3) := by decide +kernel
theorem dX9_painted_22 : decode cX9_painted 22 = .ok (.iconst (-1), 1) := by decide +kernel
theorem dX9_painted_23 : decode cX9_painted 23 = .ok (.ireturn, 1) := by decide +kernel
theorem dX9_book_0 : decode cX9_book 0 = .ok (.iload_n 1, 1) := by decide +kernel
theorem dX9_book_1 : decode cX9_book 1 = .ok (.iconst (-1), 1) := by decide +kernel
theorem dX9_book_2 : decode cX9_book 2 = .ok (.if_icmp .ne 11, 3) := by decide +kernel
theorem dX9_book_5 : decode cX9_book 5 = .ok (.aload_n 0, 1) := by decide +kernel
theorem dX9_book_6 : decode cX9_book 6 = .ok (.getfield 59, 3) := by decide +kernel
theorem dX9_book_9 : decode cX9_book 9 = .ok (.getfield 327, 3) := by decide +kernel
theorem dX9_book_12 : decode cX9_book 12 = .ok (.ireturn, 1) := by decide +kernel
theorem dX9_book_13 : decode cX9_book 13 = .ok (.iload_n 1, 1) := by decide +kernel
theorem dX9_book_14 : decode cX9_book 14 = .ok (.ifCond .lt 23, 3) := by decide +kernel
theorem dX9_book_17 : decode cX9_book 17 = .ok (.iload_n 1, 1) := by decide +kernel
theorem dX9_book_18 : decode cX9_book 18 = .ok (.aload_n 0, 1) := by decide +kernel
theorem dX9_book_19 : decode cX9_book 19 = .ok (.getfield 59, 3) := by decide +kernel
theorem dX9_book_22 : decode cX9_book 22 = .ok (.getfield 327, 3) := by decide +kernel
theorem dX9_book_25 : decode cX9_book 25 = .ok (.if_icmp .ge 12, 3) := by decide +kernel
theorem dX9_book_28 : decode cX9_book 28 = .ok (.iload_n 2, 1) := by decide +kernel
theorem dX9_book_29 : decode cX9_book 29 = .ok (.ifCond .lt 8, 3) := by decide +kernel
theorem dX9_book_32 : decode cX9_book 32 = .ok (.iload_n 2, 1) := by decide +kernel
theorem dX9_book_33 : decode cX9_book 33 = .ok (.iconst 3, 1) := by decide +kernel
theorem dX9_book_34 : decode cX9_book 34 = .ok (.if_icmp .lt 6, 3) := by decide +kernel
theorem dX9_book_37 : decode cX9_book 37 = .ok (.bipush (-2), 2) := by decide +kernel
theorem dX9_book_39 : decode cX9_book 39 = .ok (.ireturn, 1) := by decide +kernel
theorem dX9_book_40 : decode cX9_book 40 = .ok (.aload_n 0, 1) := by decide +kernel
theorem dX9_book_41 : decode cX9_book 41 = .ok (.getfield 59, 3) := by decide +kernel
theorem dX9_book_44 : decode cX9_book 44 = .ok (.getfield 330, 3) := by decide +kernel
theorem dX9_book_47 : decode cX9_book 47 = .ok (.iload_n 1, 1) := by decide +kernel
theorem dX9_book_48 : decode cX9_book 48 = .ok (.iconst 3, 1) := by decide +kernel
theorem dX9_book_49 : decode cX9_book 49 = .ok (.imul, 1) := by decide +kernel
theorem dX9_book_50 : decode cX9_book 50 = .ok (.iload_n 2, 1) := by decide +kernel
theorem dX9_book_51 : decode cX9_book 51 = .ok (.iadd, 1) := by decide +kernel
theorem dX9_book_52 : decode cX9_book 52 = .ok (.iaload, 1) := by decide +kernel
theorem dX9_book_53 : decode cX9_book 53 = .ok (.ireturn, 1) := by decide +kernel
theorem dX9_common_0 : decode cX9_common 0 = .ok (.aload_n 0, 1) := by decide +kernel
theorem dX9_common_1 : decode cX9_common 1 = .ok (.invokevirtual 182, 3) := by decide +kernel
theorem dX9_common_4 : decode cX9_common 4 = .ok (.astore_n 2, 1) := by decide +kernel
theorem dX9_common_5 : decode cX9_common 5 = .ok (.aload_n 2, 1) := by decide +kernel
theorem dX9_common_6 : decode cX9_common 6 = .ok (.invokevirtual 333, 3) := by decide +kernel
theorem dX9_common_9 : decode cX9_common 9 = .ok (.istore_n 3, 1) := by decide +kernel
theorem dX9_common_10 : decode cX9_common 10 = .ok (.iload_n 3, 1) := by decide +kernel
theorem dX9_common_11 : decode cX9_common 11 = .ok (.iconst (-1), 1) := by decide +kernel
theorem dX9_common_12 : decode cX9_common 12 = .ok (.if_icmp .eq 12, 3) := by decide +kernel
theorem dX9_common_15 : decode cX9_common 15 = .ok (.iload_n 1, 1) := by decide +kernel
theorem dX9_common_16 : decode cX9_common 16 = .ok (.ifCond .lt 8, 3) := by decide +kernel
theorem dX9_common_19 : decode cX9_common 19 = .ok (.iload_n 1, 1) := by decide +kernel
theorem dX9_common_20 : decode cX9_common 20 = .ok (.iconst 1, 1) := by decide +kernel
theorem dX9_common_21 : decode cX9_common 21 = .ok (.if_icmp .le 5, 3) := by decide +kernel
theorem dX9_common_24 : decode cX9_common 24 = .ok (.iconst (-1), 1) := by decide +kernel
theorem dX9_common_25 : decode cX9_common 25 = .ok (.ireturn, 1) := by decide +kernel
theorem dX9_common_26 : decode cX9_common 26 = .ok (.iload_n 1, 1) := by decide +kernel
theorem dX9_common_27 : decode cX9_common 27 = .ok (.ifCond .ne 7, 3) := by decide +kernel
theorem dX9_common_30 : decode cX9_common 30 = .ok (.iload_n 3, 1) := by decide +kernel
theorem dX9_common_31 : decode cX9_common 31 = .ok (.goto 8, 3) := by decide +kernel
theorem dX9_common_34 : decode cX9_common 34 = .ok (.aload_n 2, 1) := by decide +kernel
theorem dX9_common_35 : decode cX9_common 35 = .ok (.iload_n 3, 1) := by decide +kernel
theorem dX9_common_36 : decode cX9_common 36 = .ok (.invokevirtual 336, 3) := by decide +kernel
theorem dX9_common_39 : decode cX9_common 39 = .ok (.ireturn, 1) := by decide +kernel
theorem dX9_paired_0 : decode cX9_paired 0 = .ok (.aload_n 0, 1) := by decide +kernel
theorem dX9_paired_1 : decode cX9_paired 1 = .ok (.iload_n 1, 1) := by decide +kernel
theorem dX9_paired_2 : decode cX9_paired 2 = .ok (.invokevirtual 157, 3) := by decide +kernel
theorem dX9_paired_5 : decode cX9_paired 5 = .ok (.ifCond .eq 21, 3) := by decide +kernel
theorem dX9_paired_8 : decode cX9_paired 8 = .ok (.aload_n 0, 1) := by decide +kernel
theorem dX9_paired_9 : decode cX9_paired 9 = .ok (.getfield 26, 3) := by decide +kernel
theorem dX9_paired_12 : decode cX9_paired 12 = .ok (.aload_n 0, 1) := by decide +kernel
theorem dX9_paired_13 : decode cX9_paired 13 = .ok (.getfield 59, 3) := by decide +kernel
theorem dX9_paired_16 : decode cX9_paired 16 = .ok (.getfield 103, 3) := by decide +kernel
theorem dX9_paired_19 : decode cX9_paired 19 = .ok (.iload_n 1, 1) := by decide +kernel
theorem dX9_paired_20 : decode cX9_paired 20 = .ok (.invokevirtual 339, 3) := by decide +kernel
theorem dX9_paired_23 : decode cX9_paired 23 = .ok (.goto 4, 3) := by decide +kernel
theorem dX9_paired_26 : decode cX9_paired 26 = .ok (.iconst (-1), 1) := by decide +kernel
theorem dX9_paired_27 : decode cX9_paired 27 = .ok (.ireturn, 1) := by decide +kernel
theorem dX9_line_0 : decode cX9_line 0 = .ok (.aload_n 0, 1) := by decide +kernel
theorem dX9_line_1 : decode cX9_line 1 = .ok (.iload_n 1, 1) := by decide +kernel
theorem dX9_line_2 : decode cX9_line 2 = .ok (.invokevirtual 157, 3) := by decide +kernel
theorem dX9_line_5 : decode cX9_line 5 = .ok (.ifCond .ne 5, 3) := by decide +kernel
theorem dX9_line_8 : decode cX9_line 8 = .ok (.iconst (-1), 1) := by decide +kernel
theorem dX9_line_9 : decode cX9_line 9 = .ok (.ireturn, 1) := by decide +kernel
theorem dX9_line_10 : decode cX9_line 10 = .ok (.iload_n 2, 1) := by decide +kernel
theorem dX9_line_11 : decode cX9_line 11 = .ok (.ifCond .ne 15, 3) := by decide +kernel
theorem dX9_line_14 : decode cX9_line 14 = .ok (.aload_n 0, 1) := by decide +kernel
theorem dX9_line_15 : decode cX9_line 15 = .ok (.getfield 59, 3) := by decide +kernel
theorem dX9_line_18 : decode cX9_line 18 = .ok (.getfield 103, 3) := by decide +kernel
theorem dX9_line_21 : decode cX9_line 21 = .ok (.iload_n 1, 1) := by decide +kernel
theorem dX9_line_22 : decode cX9_line 22 = .ok (.invokevirtual 343, 3) := by decide +kernel
theorem dX9_line_25 : decode cX9_line 25 = .ok (.ireturn, 1) := by decide +kernel
theorem dX9_line_26 : decode cX9_line 26 = .ok (.iload_n 2, 1) := by decide +kernel
theorem dX9_line_27 : decode cX9_line 27 = .ok (.iconst 1, 1) := by decide +kernel
theorem dX9_line_28 : decode cX9_line 28 = .ok (.if_icmp .ne 17, 3) := by decide +kernel
theorem dX9_line_31 : decode cX9_line 31 = .ok (.aload_n 0, 1) := by decide +kernel
theorem dX9_line_32 : decode cX9_line 32 = .ok (.getfield 59, 3) := by decide +kernel
theorem dX9_line_35 : decode cX9_line 35 = .ok (.getfield 103, 3) := by decide +kernel
theorem dX9_line_38 : decode cX9_line 38 = .ok (.iload_n 1, 1) := by decide +kernel
theorem dX9_line_39 : decode cX9_line 39 = .ok (.invokevirtual 346, 3) := by decide +kernel
theorem dX9_line_42 : decode cX9_line 42 = .ok (.goto 4, 3) := by decide +kernel
theorem dX9_line_45 : decode cX9_line 45 = .ok (.iconst (-1), 1) := by decide +kernel
theorem dX9_line_46 : decode cX9_line 46 = .ok (.ireturn, 1) := by decide +kernel
theorem dX9_circling_0 : decode cX9_circling 0 = .ok (.aload_n 0, 1) := by decide +kernel
theorem dX9_circling_1 : decode cX9_circling 1 = .ok (.invokevirtual 349, 3) := by decide +kernel
theorem dX9_circling_4 : decode cX9_circling 4 = .ok (.astore_n 1, 1) := by decide +kernel
theorem dX9_circling_5 : decode cX9_circling 5 = .ok (.aload_n 1, 1) := by decide +kernel
theorem dX9_circling_6 : decode cX9_circling 6 = .ok (.getfield 353, 3) := by decide +kernel
theorem dX9_circling_9 : decode cX9_circling 9 = .ok (.iconst 1, 1) := by decide +kernel
theorem dX9_circling_10 : decode cX9_circling 10 = .ok (.if_icmp .ne 14, 3) := by decide +kernel
theorem dX9_circling_13 : decode cX9_circling 13 = .ok (.aload_n 1, 1) := by decide +kernel
theorem dX9_circling_14 : decode cX9_circling 14 = .ok (.aload_n 1, 1) := by decide +kernel
theorem dX9_circling_15 : decode cX9_circling 15 = .ok (.getfield 356, 3) := by decide +kernel
theorem dX9_circling_18 : decode cX9_circling 18 = .ok (.invokevirtual 359, 3) := by decide +kernel
theorem dX9_circling_21 : decode cX9_circling 21 = .ok (.goto 4, 3) := by decide +kernel
theorem dX9_circling_24 : decode cX9_circling 24 = .ok (.iconst 0, 1) := by decide +kernel
theorem dX9_circling_25 : decode cX9_circling 25 = .ok (.ireturn, 1) := by decide +kernel
theorem dX9_course_0 : decode cX9_course 0 = .ok (.aload_n 0, 1) := by decide +kernel
theorem dX9_course_1 : decode cX9_course 1 = .ok (.invokevirtual 349, 3) := by decide +kernel
theorem dX9_course_4 : decode cX9_course 4 = .ok (.astore_n 2, 1) := by decide +kernel
theorem dX9_course_5 : decode cX9_course 5 = .ok (.aload_n 2, 1) := by decide +kernel
theorem dX9_course_6 : decode cX9_course 6 = .ok (.getfield 353, 3) := by decide +kernel
theorem dX9_course_9 : decode cX9_course 9 = .ok (.iconst 1, 1) := by decide +kernel
theorem dX9_course_10 : decode cX9_course 10 = .ok (.if_icmp .ne 7, 3) := by decide +kernel
theorem dX9_course_13 : decode cX9_course 13 = .ok (.iconst 1, 1) := by decide +kernel
theorem dX9_course_14 : decode cX9_course 14 = .ok (.goto 4, 3) := by decide +kernel
theorem dX9_course_17 : decode cX9_course 17 = .ok (.iconst 0, 1) := by decide +kernel
theorem dX9_course_18 : decode cX9_course 18 = .ok (.istore_n 3, 1) := by decide +kernel
theorem dX9_course_19 : decode cX9_course 19 = .ok (.iload_n 1, 1) := by decide +kernel
theorem dX9_course_20 : decode cX9_course 20 = .ok (.tableswitch 98 0 5 #[40, 45, 50, 63, 81, 93], 40) := by decide +kernel
theorem dX9_course_60 : decode cX9_course 60 = .ok (.aload_n 2, 1) := by decide +kernel
theorem dX9_course_61 : decode cX9_course 61 = .ok (.getfield 353, 3) := by decide +kernel
theorem dX9_course_64 : decode cX9_course 64 = .ok (.ireturn, 1) := by decide +kernel
theorem dX9_course_65 : decode cX9_course 65 = .ok (.aload_n 2, 1) := by decide +kernel
theorem dX9_course_66 : decode cX9_course 66 = .ok (.getfield 362, 3) := by decide +kernel
theorem dX9_course_69 : decode cX9_course 69 = .ok (.ireturn, 1) := by decide +kernel
theorem dX9_course_70 : decode cX9_course 70 = .ok (.iload_n 3, 1) := by decide +kernel
theorem dX9_course_71 : decode cX9_course 71 = .ok (.ifCond .eq 10, 3) := by decide +kernel
theorem dX9_course_74 : decode cX9_course 74 = .ok (.aload_n 2, 1) := by decide +kernel
theorem dX9_course_75 : decode cX9_course 75 = .ok (.getfield 356, 3) := by decide +kernel
theorem dX9_course_78 : decode cX9_course 78 = .ok (.goto 4, 3) := by decide +kernel
theorem dX9_course_81 : decode cX9_course 81 = .ok (.iconst (-1), 1) := by decide +kernel
theorem dX9_course_82 : decode cX9_course 82 = .ok (.ireturn, 1) := by decide +kernel
theorem dX9_course_83 : decode cX9_course 83 = .ok (.iload_n 3, 1) := by decide +kernel
theorem dX9_course_84 : decode cX9_course 84 = .ok (.ifCond .eq 15, 3) := by decide +kernel
theorem dX9_course_87 : decode cX9_course 87 = .ok (.aload_n 2, 1) := by decide +kernel
theorem dX9_course_88 : decode cX9_course 88 = .ok (.getfield 362, 3) := by decide +kernel
theorem dX9_course_91 : decode cX9_course 91 = .ok (.aload_n 2, 1) := by decide +kernel
theorem dX9_course_92 : decode cX9_course 92 = .ok (.getfield 356, 3) := by decide +kernel
theorem dX9_course_95 : decode cX9_course 95 = .ok (.isub, 1) := by decide +kernel
theorem dX9_course_96 : decode cX9_course 96 = .ok (.goto 4, 3) := by decide +kernel
theorem dX9_course_99 : decode cX9_course 99 = .ok (.iconst (-1), 1) := by decide +kernel
theorem dX9_course_100 : decode cX9_course 100 = .ok (.ireturn, 1) := by decide +kernel
theorem dX9_course_101 : decode cX9_course 101 = .ok (.aload_n 2, 1) := by decide +kernel
theorem dX9_course_102 : decode cX9_course 102 = .ok (.aload_n 2, 1) := by decide +kernel
theorem dX9_course_103 : decode cX9_course 103 = .ok (.getfield 362, 3) := by decide +kernel
theorem dX9_course_106 : decode cX9_course 106 = .ok (.invokevirtual 363, 3) := by decide +kernel
theorem dX9_course_109 : decode cX9_course 109 = .ok (.getfield 138, 3) := by decide +kernel
theorem dX9_course_112 : decode cX9_course 112 = .ok (.ireturn, 1) := by decide +kernel
theorem dX9_course_113 : decode cX9_course 113 = .ok (.aload_n 2, 1) := by decide +kernel
theorem dX9_course_114 : decode cX9_course 114 = .ok (.getfield 367, 3) := by decide +kernel
theorem dX9_course_117 : decode cX9_course 117 = .ok (.ireturn, 1) := by decide +kernel
theorem dX9_course_118 : decode cX9_course 118 = .ok (.iconst (-1), 1) := by decide +kernel
theorem dX9_course_119 : decode cX9_course 119 = .ok (.ireturn, 1) := by decide +kernel
theorem dX9_later_0 : decode cX9_later 0 = .ok (.iload_n 1, 1) := by decide +kernel
theorem dX9_later_1 : decode cX9_later 1 = .ok (.ifCond .lt 9, 3) := by decide +kernel
theorem dX9_later_4 : decode cX9_later 4 = .ok (.iload_n 1, 1) := by decide +kernel
theorem dX9_later_5 : decode cX9_later 5 = .ok (.bipush 30, 2) := by decide +kernel
theorem dX9_later_7 : decode cX9_later 7 = .ok (.if_icmp .le 5, 3) := by decide +kernel
theorem dX9_later_10 : decode cX9_later 10 = .ok (.iconst (-1), 1) := by decide +kernel
theorem dX9_later_11 : decode cX9_later 11 = .ok (.ireturn, 1) := by decide +kernel
theorem dX9_later_12 : decode cX9_later 12 = .ok (.aload_n 0, 1) := by decide +kernel
theorem dX9_later_13 : decode cX9_later 13 = .ok (.invokevirtual 349, 3) := by decide +kernel
theorem dX9_later_16 : decode cX9_later 16 = .ok (.iload_n 1, 1) := by decide +kernel
theorem dX9_later_17 : decode cX9_later 17 = .ok (.invokevirtual 363, 3) := by decide +kernel
theorem dX9_later_20 : decode cX9_later 20 = .ok (.astore_n 3, 1) := by decide +kernel
theorem dX9_later_21 : decode cX9_later 21 = .ok (.iload_n 2, 1) := by decide +kernel
theorem dX9_later_22 : decode cX9_later 22 = .ok (.ifCond .lt 20, 3) := by decide +kernel
theorem dX9_later_25 : decode cX9_later 25 = .ok (.iload_n 2, 1) := by decide +kernel
theorem dX9_later_26 : decode cX9_later 26 = .ok (.aload_n 3, 1) := by decide +kernel
theorem dX9_later_27 : decode cX9_later 27 = .ok (.getfield 138, 3) := by decide +kernel
theorem dX9_later_30 : decode cX9_later 30 = .ok (.if_icmp .ge 12, 3) := by decide +kernel
theorem dX9_later_33 : decode cX9_later 33 = .ok (.aload_n 3, 1) := by decide +kernel
theorem dX9_later_34 : decode cX9_later 34 = .ok (.getfield 164, 3) := by decide +kernel
theorem dX9_later_37 : decode cX9_later 37 = .ok (.iload_n 2, 1) := by decide +kernel
theorem dX9_later_38 : decode cX9_later 38 = .ok (.baload, 1) := by decide +kernel
theorem dX9_later_39 : decode cX9_later 39 = .ok (.goto 4, 3) := by decide +kernel
theorem dX9_later_42 : decode cX9_later 42 = .ok (.iconst (-1), 1) := by decide +kernel
theorem dX9_later_43 : decode cX9_later 43 = .ok (.ireturn, 1) := by decide +kernel
theorem dX9_digest_0 : decode cX9_digest 0 = .ok (.iload_n 1, 1) := by decide +kernel
theorem dX9_digest_1 : decode cX9_digest 1 = .ok (.ifCond .lt 9, 3) := by decide +kernel
theorem dX9_digest_4 : decode cX9_digest 4 = .ok (.iload_n 1, 1) := by decide +kernel
theorem dX9_digest_5 : decode cX9_digest 5 = .ok (.bipush 30, 2) := by decide +kernel
theorem dX9_digest_7 : decode cX9_digest 7 = .ok (.if_icmp .le 5, 3) := by decide +kernel
theorem dX9_digest_10 : decode cX9_digest 10 = .ok (.iconst 0, 1) := by decide +kernel
theorem dX9_digest_11 : decode cX9_digest 11 = .ok (.ireturn, 1) := by decide +kernel
theorem dX9_digest_12 : decode cX9_digest 12 = .ok (.aload_n 0, 1) := by decide +kernel
theorem dX9_digest_13 : decode cX9_digest 13 = .ok (.invokevirtual 349, 3) := by decide +kernel
theorem dX9_digest_16 : decode cX9_digest 16 = .ok (.iload_n 1, 1) := by decide +kernel
theorem dX9_digest_17 : decode cX9_digest 17 = .ok (.invokevirtual 363, 3) := by decide +kernel
theorem dX9_digest_20 : decode cX9_digest 20 = .ok (.invokevirtual 370, 3) := by decide +kernel
theorem dX9_digest_23 : decode cX9_digest 23 = .ok (.ireturn, 1) := by decide +kernel
theorem dX9_used_0 : decode cX9_used 0 = .ok (.aload_n 0, 1) := by decide +kernel
theorem dX9_used_1 : decode cX9_used 1 = .ok (.invokevirtual 349, 3) := by decide +kernel
theorem dX9_used_4 : decode cX9_used 4 = .ok (.iconst 0, 1) := by decide +kernel
theorem dX9_used_5 : decode cX9_used 5 = .ok (.invokevirtual 359, 3) := by decide +kernel
theorem dX9_used_8 : decode cX9_used 8 = .ok (.ireturn, 1) := by decide +kernel
theorem dX9_cure_0 : decode cX9_cure 0 = .ok (.aload_n 0, 1) := by decide +kernel
theorem dX9_cure_1 : decode cX9_cure 1 = .ok (.getfield 373, 3) := by decide +kernel
theorem dX9_cure_4 : decode cX9_cure 4 = .ok (.ifCond .eq 8, 3) := by decide +kernel
theorem dX9_cure_7 : decode cX9_cure 7 = .ok (.aload_n 0, 1) := by decide +kernel
theorem dX9_cure_8 : decode cX9_cure 8 = .ok (.getfield 377, 3) := by decide +kernel
theorem dX9_cure_11 : decode cX9_cure 11 = .ok (.ireturn, 1) := by decide +kernel
theorem dX9_cure_12 : decode cX9_cure 12 = .ok (.aload_n 0, 1) := by decide +kernel
theorem dX9_cure_13 : decode cX9_cure 13 = .ok (.iconst 0, 1) := by decide +kernel
theorem dX9_cure_14 : decode cX9_cure 14 = .ok (.putfield 380, 3) := by decide +kernel
theorem dX9_cure_17 : decode cX9_cure 17 = .ok (.aload_n 0, 1) := by decide +kernel
theorem dX9_cure_18 : decode cX9_cure 18 = .ok (.iconst 1, 1) := by decide +kernel
theorem dX9_cure_19 : decode cX9_cure 19 = .ok (.putfield 373, 3) := by decide +kernel
theorem dX9_cure_22 : decode cX9_cure 22 = .ok (.aload_n 0, 1) := by decide +kernel
theorem dX9_cure_23 : decode cX9_cure 23 = .ok (.iconst (-1), 1) := by decide +kernel
theorem dX9_cure_24 : decode cX9_cure 24 = .ok (.putfield 377, 3) := by decide +kernel
theorem dX9_cure_27 : decode cX9_cure 27 = .ok (.iconst 0, 1) := by decide +kernel
theorem dX9_cure_28 : decode cX9_cure 28 = .ok (.istore_n 1, 1) := by decide +kernel
theorem dX9_cure_29 : decode cX9_cure 29 = .ok (.iload_n 1, 1) := by decide +kernel
theorem dX9_cure_30 : decode cX9_cure 30 = .ok (.bipush 6, 2) := by decide +kernel
theorem dX9_cure_32 : decode cX9_cure 32 = .ok (.if_icmp .gt 106, 3) := by decide +kernel
theorem dX9_cure_35 : decode cX9_cure 35 = .ok (.aload_n 0, 1) := by decide +kernel
theorem dX9_cure_36 : decode cX9_cure 36 = .ok (.getfield 377, 3) := by decide +kernel
theorem dX9_cure_39 : decode cX9_cure 39 = .ok (.iconst (-1), 1) := by decide +kernel
theorem dX9_cure_40 : decode cX9_cure 40 = .ok (.if_icmp .ne 98, 3) := by decide +kernel
theorem dX9_cure_43 : decode cX9_cure 43 = .ok (.iconst 0, 1) := by decide +kernel
theorem dX9_cure_44 : decode cX9_cure 44 = .ok (.istore_n 2, 1) := by decide +kernel
theorem dX9_cure_45 : decode cX9_cure 45 = .ok (.iload_n 2, 1) := by decide +kernel
theorem dX9_cure_46 : decode cX9_cure 46 = .ok (.bipush 64, 2) := by decide +kernel
theorem dX9_cure_48 : decode cX9_cure 48 = .ok (.if_icmp .ge 84, 3) := by decide +kernel
theorem dX9_cure_51 : decode cX9_cure 51 = .ok (.aload_n 0, 1) := by decide +kernel
theorem dX9_cure_52 : decode cX9_cure 52 = .ok (.getfield 377, 3) := by decide +kernel
theorem dX9_cure_55 : decode cX9_cure 55 = .ok (.iconst (-1), 1) := by decide +kernel
theorem dX9_cure_56 : decode cX9_cure 56 = .ok (.if_icmp .ne 76, 3) := by decide +kernel
theorem dX9_cure_59 : decode cX9_cure 59 = .ok (.iload_n 2, 1) := by decide +kernel
theorem dX9_cure_60 : decode cX9_cure 60 = .ok (.invokestatic 383, 3) := by decide +kernel
theorem dX9_cure_63 : decode cX9_cure 63 = .ok (.iload_n 1, 1) := by decide +kernel
theorem dX9_cure_64 : decode cX9_cure 64 = .ok (.if_icmp .ne 62, 3) := by decide +kernel
theorem dX9_cure_67 : decode cX9_cure 67 = .ok (.iload_n 2, 1) := by decide +kernel
theorem dX9_cure_68 : decode cX9_cure 68 = .ok (.aload_n 0, 1) := by decide +kernel
theorem dX9_cure_69 : decode cX9_cure 69 = .ok (.getfield 59, 3) := by decide +kernel
theorem dX9_cure_72 : decode cX9_cure 72 = .ok (.getfield 135, 3) := by decide +kernel
theorem dX9_cure_75 : decode cX9_cure 75 = .ok (.iconst (-1), 1) := by decide +kernel
theorem dX9_cure_76 : decode cX9_cure 76 = .ok (.ixor, 1) := by decide +kernel
theorem dX9_cure_77 : decode cX9_cure 77 = .ok (.iand, 1) := by decide +kernel
theorem dX9_cure_78 : decode cX9_cure 78 = .ok (.ifCond .ne 48, 3) := by decide +kernel
theorem dX9_cure_81 : decode cX9_cure 81 = .ok (.aload_n 0, 1) := by decide +kernel
theorem dX9_cure_82 : decode cX9_cure 82 = .ok (.getfield 19, 3) := by decide +kernel
theorem dX9_cure_85 : decode cX9_cure 85 = .ok (.aload_n 0, 1) := by decide +kernel
theorem dX9_cure_86 : decode cX9_cure 86 = .ok (.getfield 59, 3) := by decide +kernel
theorem dX9_cure_89 : decode cX9_cure 89 = .ok (.aload_n 0, 1) := by decide +kernel
theorem dX9_cure_90 : decode cX9_cure 90 = .ok (.getfield 59, 3) := by decide +kernel
theorem dX9_cure_93 : decode cX9_cure 93 = .ok (.getfield 135, 3) := by decide +kernel
theorem dX9_cure_96 : decode cX9_cure 96 = .ok (.iload_n 2, 1) := by decide +kernel
theorem dX9_cure_97 : decode cX9_cure 97 = .ok (.iconst (-1), 1) := by decide +kernel
theorem dX9_cure_98 : decode cX9_cure 98 = .ok (.ixor, 1) := by decide +kernel
theorem dX9_cure_99 : decode cX9_cure 99 = .ok (.iand, 1) := by decide +kernel
theorem dX9_cure_100 : decode cX9_cure 100 = .ok (.aload_n 0, 1) := by decide +kernel
theorem dX9_cure_101 : decode cX9_cure 101 = .ok (.getfield 85, 3) := by decide +kernel
theorem dX9_cure_104 : decode cX9_cure 104 = .ok (.invokevirtual 388, 3) := by decide +kernel
theorem dX9_cure_107 : decode cX9_cure 107 = .ok (.aload_n 0, 1) := by decide +kernel
theorem dX9_cure_108 : decode cX9_cure 108 = .ok (.aload_n 0, 1) := by decide +kernel
theorem dX9_cure_109 : decode cX9_cure 109 = .ok (.getfield 19, 3) := by decide +kernel
theorem dX9_cure_112 : decode cX9_cure 112 = .ok (.getfield 353, 3) := by decide +kernel
theorem dX9_cure_115 : decode cX9_cure 115 = .ok (.ifCond .ne 7, 3) := by decide +kernel
theorem dX9_cure_118 : decode cX9_cure 118 = .ok (.iload_n 2, 1) := by decide +kernel
theorem dX9_cure_119 : decode cX9_cure 119 = .ok (.goto 4, 3) := by decide +kernel
theorem dX9_cure_122 : decode cX9_cure 122 = .ok (.iconst (-1), 1) := by decide +kernel
theorem dX9_cure_123 : decode cX9_cure 123 = .ok (.putfield 377, 3) := by decide +kernel
theorem dX9_cure_126 : decode cX9_cure 126 = .ok (.iinc 2 1, 3) := by decide +kernel
theorem dX9_cure_129 : decode cX9_cure 129 = .ok (.goto (-84), 3) := by decide +kernel
theorem dX9_cure_132 : decode cX9_cure 132 = .ok (.iinc 1 1, 3) := by decide +kernel
theorem dX9_cure_135 : decode cX9_cure 135 = .ok (.goto (-106), 3) := by decide +kernel
theorem dX9_cure_138 : decode cX9_cure 138 = .ok (.aload_n 0, 1) := by decide +kernel
theorem dX9_cure_139 : decode cX9_cure 139 = .ok (.getfield 377, 3) := by decide +kernel
theorem dX9_cure_142 : decode cX9_cure 142 = .ok (.ireturn, 1) := by decide +kernel
theorem dX9_mean_0 : decode cX9_mean 0 = .ok (.aload_n 0, 1) := by decide +kernel
theorem dX9_mean_1 : decode cX9_mean 1 = .ok (.invokevirtual 182, 3) := by decide +kernel
theorem dX9_mean_4 : decode cX9_mean 4 = .ok (.astore_n 1, 1) := by decide +kernel
theorem dX9_mean_5 : decode cX9_mean 5 = .ok (.aload_n 1, 1) := by decide +kernel
theorem dX9_mean_6 : decode cX9_mean 6 = .ok (.getfield 228, 3) := by decide +kernel
theorem dX9_mean_9 : decode cX9_mean 9 = .ok (.aload_n 1, 1) := by decide +kernel
theorem dX9_mean_10 : decode cX9_mean 10 = .ok (.iconst 1, 1) := by decide +kernel
theorem dX9_mean_11 : decode cX9_mean 11 = .ok (.invokevirtual 229, 3) := by decide +kernel
theorem dX9_mean_14 : decode cX9_mean 14 = .ok (.isub, 1) := by decide +kernel
theorem dX9_mean_15 : decode cX9_mean 15 = .ok (.istore_n 2, 1) := by decide +kernel
theorem dX9_mean_16 : decode cX9_mean 16 = .ok (.iload_n 2, 1) := by decide +kernel
theorem dX9_mean_17 : decode cX9_mean 17 = .ok (.iconst 1, 1) := by decide +kernel
theorem dX9_mean_18 : decode cX9_mean 18 = .ok (.if_icmp .ge 5, 3) := by decide +kernel
theorem dX9_mean_21 : decode cX9_mean 21 = .ok (.iconst 0, 1) := by decide +kernel
theorem dX9_mean_22 : decode cX9_mean 22 = .ok (.ireturn, 1) := by decide +kernel
theorem dX9_mean_23 : decode cX9_mean 23 = .ok (.aload_n 1, 1) := by decide +kernel
theorem dX9_mean_24 : decode cX9_mean 24 = .ok (.invokevirtual 392, 3) := by decide +kernel
theorem dX9_mean_27 : decode cX9_mean 27 = .ok (.i2f, 1) := by decide +kernel
theorem dX9_mean_28 : decode cX9_mean 28 = .ok (.iload_n 2, 1) := by decide +kernel
theorem dX9_mean_29 : decode cX9_mean 29 = .ok (.i2f, 1) := by decide +kernel
theorem dX9_mean_30 : decode cX9_mean 30 = .ok (.fdiv, 1) := by decide +kernel
theorem dX9_mean_31 : decode cX9_mean 31 = .ok (.invokestatic 395, 3) := by decide +kernel
theorem dX9_mean_34 : decode cX9_mean 34 = .ok (.ireturn, 1) := by decide +kernel
theorem dX9_share_0 : decode cX9_share 0 = .ok (.aload_n 0, 1) := by decide +kernel
theorem dX9_share_1 : decode cX9_share 1 = .ok (.getfield 59, 3) := by decide +kernel
theorem dX9_share_4 : decode cX9_share 4 = .ok (.getfield 103, 3) := by decide +kernel
theorem dX9_share_7 : decode cX9_share 7 = .ok (.getfield 138, 3) := by decide +kernel
theorem dX9_share_10 : decode cX9_share 10 = .ok (.istore_n 1, 1) := by decide +kernel
theorem dX9_share_11 : decode cX9_share 11 = .ok (.iload_n 1, 1) := by decide +kernel
theorem dX9_share_12 : decode cX9_share 12 = .ok (.iconst 1, 1) := by decide +kernel
theorem dX9_share_13 : decode cX9_share 13 = .ok (.if_icmp .ge 5, 3) := by decide +kernel
theorem dX9_share_16 : decode cX9_share 16 = .ok (.lconst 0, 1) := by decide +kernel
theorem dX9_share_17 : decode cX9_share 17 = .ok (.lreturn, 1) := by decide +kernel
theorem dX9_share_18 : decode cX9_share 18 = .ok (.aload_n 0, 1) := by decide +kernel
theorem dX9_share_19 : decode cX9_share 19 = .ok (.invokevirtual 182, 3) := by decide +kernel
theorem dX9_share_22 : decode cX9_share 22 = .ok (.invokevirtual 399, 3) := by decide +kernel
theorem dX9_share_25 : decode cX9_share 25 = .ok (.i2d, 1) := by decide +kernel
theorem dX9_share_26 : decode cX9_share 26 = .ok (.iload_n 1, 1) := by decide +kernel
theorem dX9_share_27 : decode cX9_share 27 = .ok (.i2d, 1) := by decide +kernel
theorem dX9_share_28 : decode cX9_share 28 = .ok (.ddiv, 1) := by decide +kernel
theorem dX9_share_29 : decode cX9_share 29 = .ok (.invokestatic 402, 3) := by decide +kernel
theorem dX9_share_32 : decode cX9_share 32 = .ok (.lreturn, 1) := by decide +kernel
theorem dX9_image_0 : decode cX9_image 0 = .ok (.aload_n 0, 1) := by decide +kernel
theorem dX9_image_1 : decode cX9_image 1 = .ok (.getfield 70, 3) := by decide +kernel
theorem dX9_image_4 : decode cX9_image 4 = .ok (.aload_n 0, 1) := by decide +kernel
theorem dX9_image_5 : decode cX9_image 5 = .ok (.getfield 59, 3) := by decide +kernel
theorem dX9_image_8 : decode cX9_image 8 = .ok (.invokevirtual 406, 3) := by decide +kernel
theorem dX9_image_11 : decode cX9_image 11 = .ok (.aload_n 0, 1) := by decide +kernel
theorem dX9_image_12 : decode cX9_image 12 = .ok (.getfield 73, 3) := by decide +kernel
theorem dX9_image_15 : decode cX9_image 15 = .ok (.aload_n 0, 1) := by decide +kernel
theorem dX9_image_16 : decode cX9_image 16 = .ok (.getfield 66, 3) := by decide +kernel
theorem dX9_image_19 : decode cX9_image 19 = .ok (.invokevirtual 408, 3) := by decide +kernel
theorem dX9_image_22 : decode cX9_image 22 = .ok (.aload_n 0, 1) := by decide +kernel
theorem dX9_image_23 : decode cX9_image 23 = .ok (.getfield 59, 3) := by decide +kernel
theorem dX9_image_26 : decode cX9_image 26 = .ok (.getfield 103, 3) := by decide +kernel
theorem dX9_image_29 : decode cX9_image 29 = .ok (.getfield 138, 3) := by decide +kernel
theorem dX9_image_32 : decode cX9_image 32 = .ok (.ireturn, 1) := by decide +kernel
theorem dX9_back_0 : decode cX9_back 0 = .ok (.aload_n 0, 1) := by decide +kernel
theorem dX9_back_1 : decode cX9_back 1 = .ok (.getfield 59, 3) := by decide +kernel
theorem dX9_back_4 : decode cX9_back 4 = .ok (.aload_n 0, 1) := by decide +kernel
theorem dX9_back_5 : decode cX9_back 5 = .ok (.getfield 70, 3) := by decide +kernel
theorem dX9_back_8 : decode cX9_back 8 = .ok (.invokevirtual 406, 3) := by decide +kernel
theorem dX9_back_11 : decode cX9_back 11 = .ok (.aload_n 0, 1) := by decide +kernel
theorem dX9_back_12 : decode cX9_back 12 = .ok (.getfield 66, 3) := by decide +kernel
theorem dX9_back_15 : decode cX9_back 15 = .ok (.aload_n 0, 1) := by decide +kernel
theorem dX9_back_16 : decode cX9_back 16 = .ok (.getfield 73, 3) := by decide +kernel
theorem dX9_back_19 : decode cX9_back 19 = .ok (.invokevirtual 408, 3) := by decide +kernel
theorem dX9_back_22 : decode cX9_back 22 = .ok (.aload_n 0, 1) := by decide +kernel
theorem dX9_back_23 : decode cX9_back 23 = .ok (.invokevirtual 218, 3) := by decide +kernel
theorem dX9_back_26 : decode cX9_back 26 = .ok (.aload_n 0, 1) := by decide +kernel
theorem dX9_back_27 : decode cX9_back 27 = .ok (.getfield 59, 3) := by decide +kernel
theorem dX9_back_30 : decode cX9_back 30 = .ok (.getfield 103, 3) := by decide +kernel
theorem dX9_back_33 : decode cX9_back 33 = .ok (.getfield 138, 3) := by decide +kernel
theorem dX9_back_36 : decode cX9_back 36 = .ok (.ireturn, 1) := by decide +kernel
theorem dX9_steps_0 : decode cX9_steps 0 = .ok (.aload_n 0, 1) := by decide +kernel
theorem dX9_steps_1 : decode cX9_steps 1 = .ok (.getfield 66, 3) := by decide +kernel
theorem dX9_steps_4 : decode cX9_steps 4 = .ok (.getfield 214, 3) := by decide +kernel
theorem dX9_steps_7 : decode cX9_steps 7 = .ok (.ireturn, 1) := by decide +kernel
theorem dX9_spool_0 : decode cX9_spool 0 = .ok (.bipush 24, 2) := by decide +kernel
theorem dX9_spool_2 : decode cX9_spool 2 = .ok (.istore_n 2, 1) := by decide +kernel
theorem dX9_spool_3 : decode cX9_spool 3 = .ok (.iload_n 2, 1) := by decide +kernel
theorem dX9_spool_4 : decode cX9_spool 4 = .ok (.ifCond .lt 42, 3) := by decide +kernel
theorem dX9_spool_7 : decode cX9_spool 7 = .ok (.aload_n 0, 1) := by decide +kernel
theorem dX9_spool_8 : decode cX9_spool 8 = .ok (.getfield 88, 3) := by decide +kernel
theorem dX9_spool_11 : decode cX9_spool 11 = .ok (.sipush 300, 3) := by decide +kernel
theorem dX9_spool_14 : decode cX9_spool 14 = .ok (.if_icmp .ge 26, 3) := by decide +kernel
theorem dX9_spool_17 : decode cX9_spool 17 = .ok (.aload_n 0, 1) := by decide +kernel
theorem dX9_spool_18 : decode cX9_spool 18 = .ok (.getfield 42, 3) := by decide +kernel
theorem dX9_spool_21 : decode cX9_spool 21 = .ok (.aload_n 0, 1) := by decide +kernel
theorem dX9_spool_22 : decode cX9_spool 22 = .ok (.getfield 88, 3) := by decide +kernel
theorem dX9_spool_25 : decode cX9_spool 25 = .ok (.iload_n 1, 1) := by decide +kernel
theorem dX9_spool_26 : decode cX9_spool 26 = .ok (.iload_n 2, 1) := by decide +kernel
theorem dX9_spool_27 : decode cX9_spool 27 = .ok (.iushr, 1) := by decide +kernel
theorem dX9_spool_28 : decode cX9_spool 28 = .ok (.i2b, 1) := by decide +kernel
theorem dX9_spool_29 : decode cX9_spool 29 = .ok (.bastore, 1) := by decide +kernel
theorem dX9_spool_30 : decode cX9_spool 30 = .ok (.aload_n 0, 1) := by decide +kernel
theorem dX9_spool_31 : decode cX9_spool 31 = .ok (.dup, 1) := by decide +kernel
theorem dX9_spool_32 : decode cX9_spool 32 = .ok (.getfield 88, 3) := by decide +kernel
theorem dX9_spool_35 : decode cX9_spool 35 = .ok (.iconst 1, 1) := by decide +kernel
theorem dX9_spool_36 : decode cX9_spool 36 = .ok (.iadd, 1) := by decide +kernel
theorem dX9_spool_37 : decode cX9_spool 37 = .ok (.putfield 88, 3) := by decide +kernel
theorem dX9_spool_40 : decode cX9_spool 40 = .ok (.iinc 2 (-8), 3) := by decide +kernel
theorem dX9_spool_43 : decode cX9_spool 43 = .ok (.goto (-40), 3) := by decide +kernel
theorem dX9_spool_46 : decode cX9_spool 46 = .ok (.return_, 1) := by decide +kernel
theorem dX9_isRule_0 : decode cX9_isRule 0 = .ok (.iload_n 1, 1) := by decide +kernel
theorem dX9_isRule_1 : decode cX9_isRule 1 = .ok (.ifCond .lt 21, 3) := by decide +kernel
theorem dX9_isRule_4 : decode cX9_isRule 4 = .ok (.iload_n 1, 1) := by decide +kernel
theorem dX9_isRule_5 : decode cX9_isRule 5 = .ok (.aload_n 0, 1) := by decide +kernel
theorem dX9_isRule_6 : decode cX9_isRule 6 = .ok (.getfield 59, 3) := by decide +kernel
theorem dX9_isRule_9 : decode cX9_isRule 9 = .ok (.getfield 117, 3) := by decide +kernel
theorem dX9_isRule_12 : decode cX9_isRule 12 = .ok (.getfield 120, 3) := by decide +kernel
theorem dX9_isRule_15 : decode cX9_isRule 15 = .ok (.if_icmp .ge 7, 3) := by decide +kernel
theorem dX9_isRule_18 : decode cX9_isRule 18 = .ok (.iconst 1, 1) := by decide +kernel
theorem dX9_isRule_19 : decode cX9_isRule 19 = .ok (.goto 4, 3) := by decide +kernel
theorem dX9_isRule_22 : decode cX9_isRule 22 = .ok (.iconst 0, 1) := by decide +kernel
theorem dX9_isRule_23 : decode cX9_isRule 23 = .ok (.ireturn, 1) := by decide +kernel
theorem dX9_isByte_0 : decode cX9_isByte 0 = .ok (.iload_n 1, 1) := by decide +kernel
theorem dX9_isByte_1 : decode cX9_isByte 1 = .ok (.ifCond .lt 21, 3) := by decide +kernel
theorem dX9_isByte_4 : decode cX9_isByte 4 = .ok (.iload_n 1, 1) := by decide +kernel
theorem dX9_isByte_5 : decode cX9_isByte 5 = .ok (.aload_n 0, 1) := by decide +kernel
theorem dX9_isByte_6 : decode cX9_isByte 6 = .ok (.getfield 59, 3) := by decide +kernel
theorem dX9_isByte_9 : decode cX9_isByte 9 = .ok (.getfield 103, 3) := by decide +kernel
theorem dX9_isByte_12 : decode cX9_isByte 12 = .ok (.getfield 138, 3) := by decide +kernel
theorem dX9_isByte_15 : decode cX9_isByte 15 = .ok (.if_icmp .ge 7, 3) := by decide +kernel
theorem dX9_isByte_18 : decode cX9_isByte 18 = .ok (.iconst 1, 1) := by decide +kernel
theorem dX9_isByte_19 : decode cX9_isByte 19 = .ok (.goto 4, 3) := by decide +kernel
theorem dX9_isByte_22 : decode cX9_isByte 22 = .ok (.iconst 0, 1) := by decide +kernel
theorem dX9_isByte_23 : decode cX9_isByte 23 = .ok (.ireturn, 1) := by decide +kernel
theorem dX9_keepStep_0 : decode cX9_keepStep 0 = .ok (.aload_n 0, 1) := by decide +kernel
theorem dX9_keepStep_1 : decode cX9_keepStep 1 = .ok (.getfield 66, 3) := by decide +kernel
theorem dX9_keepStep_4 : decode cX9_keepStep 4 = .ok (.aload_n 0, 1) := by decide +kernel
theorem dX9_keepStep_5 : decode cX9_keepStep 5 = .ok (.getfield 59, 3) := by decide +kernel
theorem dX9_keepStep_8 : decode cX9_keepStep 8 = .ok (.invokevirtual 204, 3) := by decide +kernel
theorem dX9_keepStep_11 : decode cX9_keepStep 11 = .ok (.aload_n 0, 1) := by decide +kernel
theorem dX9_keepStep_12 : decode cX9_keepStep 12 = .ok (.invokevirtual 218, 3) := by decide +kernel
theorem dX9_keepStep_15 : decode cX9_keepStep 15 = .ok (.return_, 1) := by decide +kernel
theorem dX9_forget_0 : decode cX9_forget 0 = .ok (.aload_n 0, 1) := by decide +kernel
theorem dX9_forget_1 : decode cX9_forget 1 = .ok (.iconst 0, 1) := by decide +kernel
theorem dX9_forget_2 : decode cX9_forget 2 = .ok (.putfield 411, 3) := by decide +kernel
theorem dX9_forget_5 : decode cX9_forget 5 = .ok (.aload_n 0, 1) := by decide +kernel
theorem dX9_forget_6 : decode cX9_forget 6 = .ok (.iconst 0, 1) := by decide +kernel
theorem dX9_forget_7 : decode cX9_forget 7 = .ok (.putfield 380, 3) := by decide +kernel
theorem dX9_forget_10 : decode cX9_forget 10 = .ok (.aload_n 0, 1) := by decide +kernel
theorem dX9_forget_11 : decode cX9_forget 11 = .ok (.iconst 0, 1) := by decide +kernel
theorem dX9_forget_12 : decode cX9_forget 12 = .ok (.putfield 373, 3) := by decide +kernel
theorem dX9_forget_15 : decode cX9_forget 15 = .ok (.return_, 1) := by decide +kernel
theorem dX9_found_0 : decode cX9_found 0 = .ok (.aload_n 0, 1) := by decide +kernel
theorem dX9_found_1 : decode cX9_found 1 = .ok (.getfield 411, 3) := by decide +kernel
theorem dX9_found_4 : decode cX9_found 4 = .ok (.ifCond .ne 33, 3) := by decide +kernel
theorem dX9_found_7 : decode cX9_found 7 = .ok (.aload_n 0, 1) := by decide +kernel
theorem dX9_found_8 : decode cX9_found 8 = .ok (.getfield 81, 3) := by decide +kernel
theorem dX9_found_11 : decode cX9_found 11 = .ok (.aload_n 0, 1) := by decide +kernel
theorem dX9_found_12 : decode cX9_found 12 = .ok (.getfield 59, 3) := by decide +kernel
theorem dX9_found_15 : decode cX9_found 15 = .ok (.getfield 103, 3) := by decide +kernel
theorem dX9_found_18 : decode cX9_found 18 = .ok (.aload_n 0, 1) := by decide +kernel
theorem dX9_found_19 : decode cX9_found 19 = .ok (.getfield 59, 3) := by decide +kernel
theorem dX9_found_22 : decode cX9_found 22 = .ok (.aload_n 0, 1) := by decide +kernel
theorem dX9_found_23 : decode cX9_found 23 = .ok (.getfield 59, 3) := by decide +kernel
theorem dX9_found_26 : decode cX9_found 26 = .ok (.getfield 135, 3) := by decide +kernel
theorem dX9_found_29 : decode cX9_found 29 = .ok (.invokevirtual 308, 3) := by decide +kernel
theorem dX9_found_32 : decode cX9_found 32 = .ok (.aload_n 0, 1) := by decide +kernel
theorem dX9_found_33 : decode cX9_found 33 = .ok (.iconst 1, 1) := by decide +kernel
theorem dX9_found_34 : decode cX9_found 34 = .ok (.putfield 411, 3) := by decide +kernel
theorem dX9_found_37 : decode cX9_found 37 = .ok (.aload_n 0, 1) := by decide +kernel
theorem dX9_found_38 : decode cX9_found 38 = .ok (.getfield 81, 3) := by decide +kernel
theorem dX9_found_41 : decode cX9_found 41 = .ok (.areturn, 1) := by decide +kernel
theorem dX9_way_0 : decode cX9_way 0 = .ok (.aload_n 0, 1) := by decide +kernel
theorem dX9_way_1 : decode cX9_way 1 = .ok (.getfield 380, 3) := by decide +kernel
theorem dX9_way_4 : decode cX9_way 4 = .ok (.ifCond .ne 30, 3) := by decide +kernel
theorem dX9_way_7 : decode cX9_way 7 = .ok (.aload_n 0, 1) := by decide +kernel
theorem dX9_way_8 : decode cX9_way 8 = .ok (.getfield 19, 3) := by decide +kernel
theorem dX9_way_11 : decode cX9_way 11 = .ok (.aload_n 0, 1) := by decide +kernel
theorem dX9_way_12 : decode cX9_way 12 = .ok (.getfield 59, 3) := by decide +kernel
theorem dX9_way_15 : decode cX9_way 15 = .ok (.aload_n 0, 1) := by decide +kernel
theorem dX9_way_16 : decode cX9_way 16 = .ok (.getfield 59, 3) := by decide +kernel
theorem dX9_way_19 : decode cX9_way 19 = .ok (.getfield 135, 3) := by decide +kernel
theorem dX9_way_22 : decode cX9_way 22 = .ok (.aload_n 0, 1) := by decide +kernel
theorem dX9_way_23 : decode cX9_way 23 = .ok (.getfield 85, 3) := by decide +kernel
theorem dX9_way_26 : decode cX9_way 26 = .ok (.invokevirtual 388, 3) := by decide +kernel
theorem dX9_way_29 : decode cX9_way 29 = .ok (.aload_n 0, 1) := by decide +kernel
theorem dX9_way_30 : decode cX9_way 30 = .ok (.iconst 1, 1) := by decide +kernel
theorem dX9_way_31 : decode cX9_way 31 = .ok (.putfield 380, 3) := by decide +kernel
theorem dX9_way_34 : decode cX9_way 34 = .ok (.aload_n 0, 1) := by decide +kernel
theorem dX9_way_35 : decode cX9_way 35 = .ok (.getfield 19, 3) := by decide +kernel
theorem dX9_way_38 : decode cX9_way 38 = .ok (.areturn, 1) := by decide +kernel
theorem dX9_makeRound_0 : decode cX9_makeRound 0 = .ok (.aload_n 0, 1) := by decide +kernel
theorem dX9_makeRound_1 : decode cX9_makeRound 1 = .ok (.invokevirtual 182, 3) := by decide +kernel
theorem dX9_makeRound_4 : decode cX9_makeRound 4 = .ok (.astore_n 1, 1) := by decide +kernel
theorem dX9_makeRound_5 : decode cX9_makeRound 5 = .ok (.aload_n 1, 1) := by decide +kernel
theorem dX9_makeRound_6 : decode cX9_makeRound 6 = .ok (.aload_n 1, 1) := by decide +kernel
theorem dX9_makeRound_7 : decode cX9_makeRound 7 = .ok (.getfield 299, 3) := by decide +kernel
theorem dX9_makeRound_10 : decode cX9_makeRound 10 = .ok (.aload_n 1, 1) := by decide +kernel
theorem dX9_makeRound_11 : decode cX9_makeRound 11 = .ok (.getfield 296, 3) := by decide +kernel
theorem dX9_makeRound_14 : decode cX9_makeRound 14 = .ok (.aload_n 0, 1) := by decide +kernel
theorem dX9_makeRound_15 : decode cX9_makeRound 15 = .ok (.getfield 12, 3) := by decide +kernel
theorem dX9_makeRound_18 : decode cX9_makeRound 18 = .ok (.invokevirtual 196, 3) := by decide +kernel
theorem dX9_makeRound_21 : decode cX9_makeRound 21 = .ok (.aload_n 0, 1) := by decide +kernel
theorem dX9_makeRound_22 : decode cX9_makeRound 22 = .ok (.getfield 59, 3) := by decide +kernel
theorem dX9_makeRound_25 : decode cX9_makeRound 25 = .ok (.aload_n 1, 1) := by decide +kernel
theorem dX9_makeRound_26 : decode cX9_makeRound 26 = .ok (.getfield 296, 3) := by decide +kernel
theorem dX9_makeRound_29 : decode cX9_makeRound 29 = .ok (.aload_n 1, 1) := by decide +kernel
theorem dX9_makeRound_30 : decode cX9_makeRound 30 = .ok (.invokevirtual 302, 3) := by decide +kernel
theorem dX9_makeRound_33 : decode cX9_makeRound 33 = .ok (.aload_n 0, 1) := by decide +kernel
theorem dX9_makeRound_34 : decode cX9_makeRound 34 = .ok (.getfield 12, 3) := by decide +kernel
theorem dX9_makeRound_37 : decode cX9_makeRound 37 = .ok (.getfield 138, 3) := by decide +kernel
theorem dX9_makeRound_40 : decode cX9_makeRound 40 = .ok (.invokevirtual 414, 3) := by decide +kernel
theorem dX9_makeRound_43 : decode cX9_makeRound 43 = .ok (.aload_n 0, 1) := by decide +kernel
theorem dX9_makeRound_44 : decode cX9_makeRound 44 = .ok (.getfield 59, 3) := by decide +kernel
theorem dX9_makeRound_47 : decode cX9_makeRound 47 = .ok (.getfield 103, 3) := by decide +kernel
theorem dX9_makeRound_50 : decode cX9_makeRound 50 = .ok (.aload_n 0, 1) := by decide +kernel
theorem dX9_makeRound_51 : decode cX9_makeRound 51 = .ok (.getfield 12, 3) := by decide +kernel
theorem dX9_makeRound_54 : decode cX9_makeRound 54 = .ok (.invokevirtual 200, 3) := by decide +kernel
theorem dX9_makeRound_57 : decode cX9_makeRound 57 = .ok (.aload_n 0, 1) := by decide +kernel
theorem dX9_makeRound_58 : decode cX9_makeRound 58 = .ok (.invokevirtual 218, 3) := by decide +kernel
theorem dX9_makeRound_61 : decode cX9_makeRound 61 = .ok (.return_, 1) := by decide +kernel
theorem dX9_mayStandInText_0 : decode cX9_mayStandInText 0 = .ok (.iload_n 0, 1) := by decide +kernel
theorem dX9_mayStandInText_1 : decode cX9_mayStandInText 1 = .ok (.bipush 10, 2) := by decide +kernel
theorem dX9_mayStandInText_3 : decode cX9_mayStandInText 3 = .ok (.if_icmp .eq 15, 3) := by decide +kernel
theorem dX9_mayStandInText_6 : decode cX9_mayStandInText 6 = .ok (.iload_n 0, 1) := by decide +kernel
theorem dX9_mayStandInText_7 : decode cX9_mayStandInText 7 = .ok (.bipush 32, 2) := by decide +kernel
theorem dX9_mayStandInText_9 : decode cX9_mayStandInText 9 = .ok (.if_icmp .lt 13, 3) := by decide +kernel
theorem dX9_mayStandInText_12 : decode cX9_mayStandInText 12 = .ok (.iload_n 0, 1) := by decide +kernel
theorem dX9_mayStandInText_13 : decode cX9_mayStandInText 13 = .ok (.bipush 126, 2) := by decide +kernel
theorem dX9_mayStandInText_15 : decode cX9_mayStandInText 15 = .ok (.if_icmp .gt 7, 3) := by decide +kernel
theorem dX9_mayStandInText_18 : decode cX9_mayStandInText 18 = .ok (.iconst 1, 1) := by decide +kernel
theorem dX9_mayStandInText_19 : decode cX9_mayStandInText 19 = .ok (.goto 4, 3) := by decide +kernel
theorem dX9_mayStandInText_22 : decode cX9_mayStandInText 22 = .ok (.iconst 0, 1) := by decide +kernel
theorem dX9_mayStandInText_23 : decode cX9_mayStandInText 23 = .ok (.ireturn, 1) := by decide +kernel
theorem dX9_sortOf_0 : decode cX9_sortOf 0 = .ok (.iload_n 0, 1) := by decide +kernel
theorem dX9_sortOf_1 : decode cX9_sortOf 1 = .ok (.bipush 97, 2) := by decide +kernel
theorem dX9_sortOf_3 : decode cX9_sortOf 3 = .ok (.if_icmp .lt 11, 3) := by decide +kernel
theorem dX9_sortOf_6 : decode cX9_sortOf 6 = .ok (.iload_n 0, 1) := by decide +kernel
theorem dX9_sortOf_7 : decode cX9_sortOf 7 = .ok (.bipush 122, 2) := by decide +kernel
theorem dX9_sortOf_9 : decode cX9_sortOf 9 = .ok (.if_icmp .gt 5, 3) := by decide +kernel
theorem dX9_sortOf_12 : decode cX9_sortOf 12 = .ok (.iconst 0, 1) := by decide +kernel
theorem dX9_sortOf_13 : decode cX9_sortOf 13 = .ok (.ireturn, 1) := by decide +kernel
theorem dX9_sortOf_14 : decode cX9_sortOf 14 = .ok (.iload_n 0, 1) := by decide +kernel
theorem dX9_sortOf_15 : decode cX9_sortOf 15 = .ok (.bipush 48, 2) := by decide +kernel
theorem dX9_sortOf_17 : decode cX9_sortOf 17 = .ok (.if_icmp .lt 11, 3) := by decide +kernel
theorem dX9_sortOf_20 : decode cX9_sortOf 20 = .ok (.iload_n 0, 1) := by decide +kernel
theorem dX9_sortOf_21 : decode cX9_sortOf 21 = .ok (.bipush 57, 2) := by decide +kernel
theorem dX9_sortOf_23 : decode cX9_sortOf 23 = .ok (.if_icmp .gt 5, 3) := by decide +kernel
theorem dX9_sortOf_26 : decode cX9_sortOf 26 = .ok (.iconst 1, 1) := by decide +kernel
theorem dX9_sortOf_27 : decode cX9_sortOf 27 = .ok (.ireturn, 1) := by decide +kernel
theorem dX9_sortOf_28 : decode cX9_sortOf 28 = .ok (.iload_n 0, 1) := by decide +kernel
theorem dX9_sortOf_29 : decode cX9_sortOf 29 = .ok (.bipush 32, 2) := by decide +kernel
theorem dX9_sortOf_31 : decode cX9_sortOf 31 = .ok (.if_icmp .eq 9, 3) := by decide +kernel
theorem dX9_sortOf_34 : decode cX9_sortOf 34 = .ok (.iload_n 0, 1) := by decide +kernel
theorem dX9_sortOf_35 : decode cX9_sortOf 35 = .ok (.bipush 10, 2) := by decide +kernel
theorem dX9_sortOf_37 : decode cX9_sortOf 37 = .ok (.if_icmp .ne 7, 3) := by decide +kernel
theorem dX9_sortOf_40 : decode cX9_sortOf 40 = .ok (.iconst 2, 1) := by decide +kernel
theorem dX9_sortOf_41 : decode cX9_sortOf 41 = .ok (.goto 4, 3) := by decide +kernel
theorem dX9_sortOf_44 : decode cX9_sortOf 44 = .ok (.iconst 3, 1) := by decide +kernel
theorem dX9_sortOf_45 : decode cX9_sortOf 45 = .ok (.ireturn, 1) := by decide +kernel
theorem dX9_bitsOfFloat_0 : decode cX9_bitsOfFloat 0 = .ok (.fload_n 0, 1) := by decide +kernel
theorem dX9_bitsOfFloat_1 : decode cX9_bitsOfFloat 1 = .ok (.fconst 0, 1) := by decide +kernel
theorem dX9_bitsOfFloat_2 : decode cX9_bitsOfFloat 2 = .ok (.fcmp .g, 1) := by decide +kernel
theorem dX9_bitsOfFloat_3 : decode cX9_bitsOfFloat 3 = .ok (.ifCond .gt 5, 3) := by decide +kernel
theorem dX9_bitsOfFloat_6 : decode cX9_bitsOfFloat 6 = .ok (.iconst 0, 1) := by decide +kernel
theorem dX9_bitsOfFloat_7 : decode cX9_bitsOfFloat 7 = .ok (.ireturn, 1) := by decide +kernel
theorem dX9_bitsOfFloat_8 : decode cX9_bitsOfFloat 8 = .ok (.fload_n 0, 1) := by decide +kernel
theorem dX9_bitsOfFloat_9 : decode cX9_bitsOfFloat 9 = .ok (.fstore_n 1, 1) := by decide +kernel
theorem dX9_bitsOfFloat_10 : decode cX9_bitsOfFloat 10 = .ok (.iconst 0, 1) := by decide +kernel
theorem dX9_bitsOfFloat_11 : decode cX9_bitsOfFloat 11 = .ok (.istore_n 2, 1) := by decide +kernel
theorem dX9_bitsOfFloat_12 : decode cX9_bitsOfFloat 12 = .ok (.iconst 0, 1) := by decide +kernel
theorem dX9_bitsOfFloat_13 : decode cX9_bitsOfFloat 13 = .ok (.istore_n 3, 1) := by decide +kernel
theorem dX9_bitsOfFloat_14 : decode cX9_bitsOfFloat 14 = .ok (.iload_n 3, 1) := by decide +kernel
theorem dX9_bitsOfFloat_15 : decode cX9_bitsOfFloat 15 = .ok (.sipush 128, 3) := by decide +kernel
theorem dX9_bitsOfFloat_18 : decode cX9_bitsOfFloat 18 = .ok (.if_icmp .ge 22, 3) := by decide +kernel
theorem dX9_bitsOfFloat_21 : decode cX9_bitsOfFloat 21 = .ok (.fload_n 1, 1) := by decide +kernel
theorem dX9_bitsOfFloat_22 : decode cX9_bitsOfFloat 22 = .ok (.fconst 2, 1) := by decide +kernel
theorem dX9_bitsOfFloat_23 : decode cX9_bitsOfFloat 23 = .ok (.fcmp .l, 1) := by decide +kernel
theorem dX9_bitsOfFloat_24 : decode cX9_bitsOfFloat 24 = .ok (.ifCond .lt 16, 3) := by decide +kernel
theorem dX9_bitsOfFloat_27 : decode cX9_bitsOfFloat 27 = .ok (.fload_n 1, 1) := by decide +kernel
theorem dX9_bitsOfFloat_28 : decode cX9_bitsOfFloat 28 = .ok (.fconst 2, 1) := by decide +kernel
theorem dX9_bitsOfFloat_29 : decode cX9_bitsOfFloat 29 = .ok (.fdiv, 1) := by decide +kernel
theorem dX9_bitsOfFloat_30 : decode cX9_bitsOfFloat 30 = .ok (.fstore_n 1, 1) := by decide +kernel
theorem dX9_bitsOfFloat_31 : decode cX9_bitsOfFloat 31 = .ok (.iinc 2 1, 3) := by decide +kernel
theorem dX9_bitsOfFloat_34 : decode cX9_bitsOfFloat 34 = .ok (.iinc 3 1, 3) := by decide +kernel
theorem dX9_bitsOfFloat_37 : decode cX9_bitsOfFloat 37 = .ok (.goto (-23), 3) := by decide +kernel
theorem dX9_bitsOfFloat_40 : decode cX9_bitsOfFloat 40 = .ok (.iconst 0, 1) := by decide +kernel
theorem dX9_bitsOfFloat_41 : decode cX9_bitsOfFloat 41 = .ok (.istore_n 3, 1) := by decide +kernel
theorem dX9_bitsOfFloat_42 : decode cX9_bitsOfFloat 42 = .ok (.iload_n 3, 1) := by decide +kernel
theorem dX9_bitsOfFloat_43 : decode cX9_bitsOfFloat 43 = .ok (.sipush 128, 3) := by decide +kernel
theorem dX9_bitsOfFloat_46 : decode cX9_bitsOfFloat 46 = .ok (.if_icmp .ge 22, 3) := by decide +kernel
theorem dX9_bitsOfFloat_49 : decode cX9_bitsOfFloat 49 = .ok (.fload_n 1, 1) := by decide +kernel
theorem dX9_bitsOfFloat_50 : decode cX9_bitsOfFloat 50 = .ok (.fconst 1, 1) := by decide +kernel
theorem dX9_bitsOfFloat_51 : decode cX9_bitsOfFloat 51 = .ok (.fcmp .g, 1) := by decide +kernel
theorem dX9_bitsOfFloat_52 : decode cX9_bitsOfFloat 52 = .ok (.ifCond .ge 16, 3) := by decide +kernel
theorem dX9_bitsOfFloat_55 : decode cX9_bitsOfFloat 55 = .ok (.fload_n 1, 1) := by decide +kernel
theorem dX9_bitsOfFloat_56 : decode cX9_bitsOfFloat 56 = .ok (.fconst 2, 1) := by decide +kernel
theorem dX9_bitsOfFloat_57 : decode cX9_bitsOfFloat 57 = .ok (.fmul, 1) := by decide +kernel
theorem dX9_bitsOfFloat_58 : decode cX9_bitsOfFloat 58 = .ok (.fstore_n 1, 1) := by decide +kernel
theorem dX9_bitsOfFloat_59 : decode cX9_bitsOfFloat 59 = .ok (.iinc 2 (-1), 3) := by decide +kernel
theorem dX9_bitsOfFloat_62 : decode cX9_bitsOfFloat 62 = .ok (.iinc 3 1, 3) := by decide +kernel
theorem dX9_bitsOfFloat_65 : decode cX9_bitsOfFloat 65 = .ok (.goto (-23), 3) := by decide +kernel
theorem dX9_bitsOfFloat_68 : decode cX9_bitsOfFloat 68 = .ok (.iload_n 2, 1) := by decide +kernel
theorem dX9_bitsOfFloat_69 : decode cX9_bitsOfFloat 69 = .ok (.bipush 127, 2) := by decide +kernel
theorem dX9_bitsOfFloat_71 : decode cX9_bitsOfFloat 71 = .ok (.iadd, 1) := by decide +kernel
theorem dX9_bitsOfFloat_72 : decode cX9_bitsOfFloat 72 = .ok (.bipush 23, 2) := by decide +kernel
theorem dX9_bitsOfFloat_74 : decode cX9_bitsOfFloat 74 = .ok (.ishl, 1) := by decide +kernel
theorem dX9_bitsOfFloat_75 : decode cX9_bitsOfFloat 75 = .ok (.fload_n 1, 1) := by decide +kernel
theorem dX9_bitsOfFloat_76 : decode cX9_bitsOfFloat 76 = .ok (.fconst 1, 1) := by decide +kernel
theorem dX9_bitsOfFloat_77 : decode cX9_bitsOfFloat 77 = .ok (.fsub, 1) := by decide +kernel
theorem dX9_bitsOfFloat_78 : decode cX9_bitsOfFloat 78 = .ok (.ldc_w 418, 3) := by decide +kernel
theorem dX9_bitsOfFloat_81 : decode cX9_bitsOfFloat 81 = .ok (.fmul, 1) := by decide +kernel
theorem dX9_bitsOfFloat_82 : decode cX9_bitsOfFloat 82 = .ok (.f2i, 1) := by decide +kernel
theorem dX9_bitsOfFloat_83 : decode cX9_bitsOfFloat 83 = .ok (.ior, 1) := by decide +kernel
theorem dX9_bitsOfFloat_84 : decode cX9_bitsOfFloat 84 = .ok (.ireturn, 1) := by decide +kernel
theorem dX9_bitsOfDouble_0 : decode cX9_bitsOfDouble 0 = .ok (.dload_n 0, 1) := by decide +kernel
theorem dX9_bitsOfDouble_1 : decode cX9_bitsOfDouble 1 = .ok (.dconst 0, 1) := by decide +kernel
theorem dX9_bitsOfDouble_2 : decode cX9_bitsOfDouble 2 = .ok (.dcmp .g, 1) := by decide +kernel
theorem dX9_bitsOfDouble_3 : decode cX9_bitsOfDouble 3 = .ok (.ifCond .gt 5, 3) := by decide +kernel
theorem dX9_bitsOfDouble_6 : decode cX9_bitsOfDouble 6 = .ok (.lconst 0, 1) := by decide +kernel
theorem dX9_bitsOfDouble_7 : decode cX9_bitsOfDouble 7 = .ok (.lreturn, 1) := by decide +kernel
theorem dX9_bitsOfDouble_8 : decode cX9_bitsOfDouble 8 = .ok (.dload_n 0, 1) := by decide +kernel
theorem dX9_bitsOfDouble_9 : decode cX9_bitsOfDouble 9 = .ok (.dstore_n 2, 1) := by decide +kernel
theorem dX9_bitsOfDouble_10 : decode cX9_bitsOfDouble 10 = .ok (.lconst 0, 1) := by decide +kernel
theorem dX9_bitsOfDouble_11 : decode cX9_bitsOfDouble 11 = .ok (.lstore 4, 2) := by decide +kernel
theorem dX9_bitsOfDouble_13 : decode cX9_bitsOfDouble 13 = .ok (.iconst 0, 1) := by decide +kernel
theorem dX9_bitsOfDouble_14 : decode cX9_bitsOfDouble 14 = .ok (.istore 6, 2) := by decide +kernel
theorem dX9_bitsOfDouble_16 : decode cX9_bitsOfDouble 16 = .ok (.iload 6, 2) := by decide +kernel
theorem dX9_bitsOfDouble_18 : decode cX9_bitsOfDouble 18 = .ok (.sipush 1024, 3) := by decide +kernel
theorem dX9_bitsOfDouble_21 : decode cX9_bitsOfDouble 21 = .ok (.if_icmp .ge 29, 3) := by decide +kernel
theorem dX9_bitsOfDouble_24 : decode cX9_bitsOfDouble 24 = .ok (.dload_n 2, 1) := by decide +kernel
theorem dX9_bitsOfDouble_25 : decode cX9_bitsOfDouble 25 = .ok (.ldc2_w 419, 3) := by decide +kernel
theorem dX9_bitsOfDouble_28 : decode cX9_bitsOfDouble 28 = .ok (.dcmp .l, 1) := by decide +kernel
theorem dX9_bitsOfDouble_29 : decode cX9_bitsOfDouble 29 = .ok (.ifCond .lt 21, 3) := by decide +kernel
theorem dX9_bitsOfDouble_32 : decode cX9_bitsOfDouble 32 = .ok (.dload_n 2, 1) := by decide +kernel
theorem dX9_bitsOfDouble_33 : decode cX9_bitsOfDouble 33 = .ok (.ldc2_w 419, 3) := by decide +kernel
theorem dX9_bitsOfDouble_36 : decode cX9_bitsOfDouble 36 = .ok (.ddiv, 1) := by decide +kernel
theorem dX9_bitsOfDouble_37 : decode cX9_bitsOfDouble 37 = .ok (.dstore_n 2, 1) := by decide +kernel
theorem dX9_bitsOfDouble_38 : decode cX9_bitsOfDouble 38 = .ok (.lload 4, 2) := by decide +kernel
theorem dX9_bitsOfDouble_40 : decode cX9_bitsOfDouble 40 = .ok (.lconst 1, 1) := by decide +kernel
theorem dX9_bitsOfDouble_41 : decode cX9_bitsOfDouble 41 = .ok (.ladd, 1) := by decide +kernel
theorem dX9_bitsOfDouble_42 : decode cX9_bitsOfDouble 42 = .ok (.lstore 4, 2) := by decide +kernel
theorem dX9_bitsOfDouble_44 : decode cX9_bitsOfDouble 44 = .ok (.iinc 6 1, 3) := by decide +kernel
theorem dX9_bitsOfDouble_47 : decode cX9_bitsOfDouble 47 = .ok (.goto (-31), 3) := by decide +kernel
theorem dX9_bitsOfDouble_50 : decode cX9_bitsOfDouble 50 = .ok (.iconst 0, 1) := by decide +kernel
theorem dX9_bitsOfDouble_51 : decode cX9_bitsOfDouble 51 = .ok (.istore 6, 2) := by decide +kernel
theorem dX9_bitsOfDouble_53 : decode cX9_bitsOfDouble 53 = .ok (.iload 6, 2) := by decide +kernel
theorem dX9_bitsOfDouble_55 : decode cX9_bitsOfDouble 55 = .ok (.sipush 1024, 3) := by decide +kernel
theorem dX9_bitsOfDouble_58 : decode cX9_bitsOfDouble 58 = .ok (.if_icmp .ge 27, 3) := by decide +kernel
theorem dX9_bitsOfDouble_61 : decode cX9_bitsOfDouble 61 = .ok (.dload_n 2, 1) := by decide +kernel
theorem dX9_bitsOfDouble_62 : decode cX9_bitsOfDouble 62 = .ok (.dconst 1, 1) := by decide +kernel
theorem dX9_bitsOfDouble_63 : decode cX9_bitsOfDouble 63 = .ok (.dcmp .g, 1) := by decide +kernel
theorem dX9_bitsOfDouble_64 : decode cX9_bitsOfDouble 64 = .ok (.ifCond .ge 21, 3) := by decide +kernel
theorem dX9_bitsOfDouble_67 : decode cX9_bitsOfDouble 67 = .ok (.dload_n 2, 1) := by decide +kernel
theorem dX9_bitsOfDouble_68 : decode cX9_bitsOfDouble 68 = .ok (.ldc2_w 419, 3) := by decide +kernel
theorem dX9_bitsOfDouble_71 : decode cX9_bitsOfDouble 71 = .ok (.dmul, 1) := by decide +kernel
theorem dX9_bitsOfDouble_72 : decode cX9_bitsOfDouble 72 = .ok (.dstore_n 2, 1) := by decide +kernel
theorem dX9_bitsOfDouble_73 : decode cX9_bitsOfDouble 73 = .ok (.lload 4, 2) := by decide +kernel
theorem dX9_bitsOfDouble_75 : decode cX9_bitsOfDouble 75 = .ok (.lconst 1, 1) := by decide +kernel
theorem dX9_bitsOfDouble_76 : decode cX9_bitsOfDouble 76 = .ok (.lsub, 1) := by decide +kernel
theorem dX9_bitsOfDouble_77 : decode cX9_bitsOfDouble 77 = .ok (.lstore 4, 2) := by decide +kernel
theorem dX9_bitsOfDouble_79 : decode cX9_bitsOfDouble 79 = .ok (.iinc 6 1, 3) := by decide +kernel
theorem dX9_bitsOfDouble_82 : decode cX9_bitsOfDouble 82 = .ok (.goto (-29), 3) := by decide +kernel
theorem dX9_bitsOfDouble_85 : decode cX9_bitsOfDouble 85 = .ok (.lload 4, 2) := by decide +kernel
theorem dX9_bitsOfDouble_87 : decode cX9_bitsOfDouble 87 = .ok (.ldc2_w 421, 3) := by decide +kernel
theorem dX9_bitsOfDouble_90 : decode cX9_bitsOfDouble 90 = .ok (.ladd, 1) := by decide +kernel
theorem dX9_bitsOfDouble_91 : decode cX9_bitsOfDouble 91 = .ok (.bipush 52, 2) := by decide +kernel
theorem dX9_bitsOfDouble_93 : decode cX9_bitsOfDouble 93 = .ok (.lshl, 1) := by decide +kernel
theorem dX9_bitsOfDouble_94 : decode cX9_bitsOfDouble 94 = .ok (.dload_n 2, 1) := by decide +kernel
theorem dX9_bitsOfDouble_95 : decode cX9_bitsOfDouble 95 = .ok (.dconst 1, 1) := by decide +kernel
theorem dX9_bitsOfDouble_96 : decode cX9_bitsOfDouble 96 = .ok (.dsub, 1) := by decide +kernel
theorem dX9_bitsOfDouble_97 : decode cX9_bitsOfDouble 97 = .ok (.ldc2_w 423, 3) := by decide +kernel
theorem dX9_bitsOfDouble_100 : decode cX9_bitsOfDouble 100 = .ok (.dmul, 1) := by decide +kernel
theorem dX9_bitsOfDouble_101 : decode cX9_bitsOfDouble 101 = .ok (.d2l, 1) := by decide +kernel
theorem dX9_bitsOfDouble_102 : decode cX9_bitsOfDouble 102 = .ok (.lor, 1) := by decide +kernel
theorem dX9_bitsOfDouble_103 : decode cX9_bitsOfDouble 103 = .ok (.lreturn, 1) := by decide +kernel
theorem dX10_init_0 : decode cX10_init 0 = .ok (.aload_n 0, 1) := by decide +kernel
theorem dX10_init_1 : decode cX10_init 1 = .ok (.invokespecial 1, 3) := by decide +kernel
theorem dX10_init_4 : decode cX10_init 4 = .ok (.aload_n 0, 1) := by decide +kernel
theorem dX10_init_5 : decode cX10_init 5 = .ok (.sipush 22094, 3) := by decide +kernel
theorem dX10_init_8 : decode cX10_init 8 = .ok (.newarray .int, 2) := by decide +kernel
theorem dX10_init_10 : decode cX10_init 10 = .ok (.putfield 7, 3) := by decide +kernel
theorem dX10_init_13 : decode cX10_init 13 = .ok (.aload_n 0, 1) := by decide +kernel
theorem dX10_init_14 : decode cX10_init 14 = .ok (.sipush 22094, 3) := by decide +kernel
theorem dX10_init_17 : decode cX10_init 17 = .ok (.newarray .int, 2) := by decide +kernel
theorem dX10_init_19 : decode cX10_init 19 = .ok (.putfield 13, 3) := by decide +kernel
theorem dX10_init_22 : decode cX10_init 22 = .ok (.aload_n 0, 1) := by decide +kernel
theorem dX10_init_23 : decode cX10_init 23 = .ok (.sipush 200, 3) := by decide +kernel
theorem dX10_init_26 : decode cX10_init 26 = .ok (.newarray .int, 2) := by decide +kernel
theorem dX10_init_28 : decode cX10_init 28 = .ok (.putfield 16, 3) := by decide +kernel
theorem dX10_init_31 : decode cX10_init 31 = .ok (.aload_n 0, 1) := by decide +kernel
theorem dX10_init_32 : decode cX10_init 32 = .ok (.sipush 200, 3) := by decide +kernel
theorem dX10_init_35 : decode cX10_init 35 = .ok (.newarray .int, 2) := by decide +kernel
theorem dX10_init_37 : decode cX10_init 37 = .ok (.putfield 19, 3) := by decide +kernel
theorem dX10_init_40 : decode cX10_init 40 = .ok (.aload_n 0, 1) := by decide +kernel
theorem dX10_init_41 : decode cX10_init 41 = .ok (.bipush 12, 2) := by decide +kernel
theorem dX10_init_43 : decode cX10_init 43 = .ok (.newarray .int, 2) := by decide +kernel
theorem dX10_init_45 : decode cX10_init 45 = .ok (.putfield 22, 3) := by decide +kernel
theorem dX10_init_48 : decode cX10_init 48 = .ok (.aload_n 0, 1) := by decide +kernel
theorem dX10_init_49 : decode cX10_init 49 = .ok (.sipush 2000, 3) := by decide +kernel
theorem dX10_init_52 : decode cX10_init 52 = .ok (.newarray .int, 2) := by decide +kernel
theorem dX10_init_54 : decode cX10_init 54 = .ok (.putfield 25, 3) := by decide +kernel
theorem dX10_init_57 : decode cX10_init 57 = .ok (.aload_n 0, 1) := by decide +kernel
theorem dX10_init_58 : decode cX10_init 58 = .ok (.sipush 1200, 3) := by decide +kernel
theorem dX10_init_61 : decode cX10_init 61 = .ok (.newarray .int, 2) := by decide +kernel
theorem dX10_init_63 : decode cX10_init 63 = .ok (.putfield 28, 3) := by decide +kernel
theorem dX10_init_66 : decode cX10_init 66 = .ok (.aload_n 0, 1) := by decide +kernel
theorem dX10_init_67 : decode cX10_init 67 = .ok (.sipush 1200, 3) := by decide +kernel
theorem dX10_init_70 : decode cX10_init 70 = .ok (.newarray .int, 2) := by decide +kernel
theorem dX10_init_72 : decode cX10_init 72 = .ok (.putfield 31, 3) := by decide +kernel
theorem dX10_init_75 : decode cX10_init 75 = .ok (.aload_n 0, 1) := by decide +kernel
theorem dX10_init_76 : decode cX10_init 76 = .ok (.sipush 1200, 3) := by decide +kernel
theorem dX10_init_79 : decode cX10_init 79 = .ok (.newarray .int, 2) := by decide +kernel
theorem dX10_init_81 : decode cX10_init 81 = .ok (.putfield 34, 3) := by decide +kernel
theorem dX10_init_84 : decode cX10_init 84 = .ok (.aload_n 0, 1) := by decide +kernel
theorem dX10_init_85 : decode cX10_init 85 = .ok (.sipush 1200, 3) := by decide +kernel
theorem dX10_init_88 : decode cX10_init 88 = .ok (.newarray .int, 2) := by decide +kernel
theorem dX10_init_90 : decode cX10_init 90 = .ok (.putfield 37, 3) := by decide +kernel
theorem dX10_init_93 : decode cX10_init 93 = .ok (.aload_n 0, 1) := by decide +kernel
theorem dX10_init_94 : decode cX10_init 94 = .ok (.sipush 1200, 3) := by decide +kernel
theorem dX10_init_97 : decode cX10_init 97 = .ok (.newarray .int, 2) := by decide +kernel
theorem dX10_init_99 : decode cX10_init 99 = .ok (.putfield 40, 3) := by decide +kernel
theorem dX10_init_102 : decode cX10_init 102 = .ok (.aload_n 0, 1) := by decide +kernel
theorem dX10_init_103 : decode cX10_init 103 = .ok (.sipush 1200, 3) := by decide +kernel
theorem dX10_init_106 : decode cX10_init 106 = .ok (.newarray .int, 2) := by decide +kernel
theorem dX10_init_108 : decode cX10_init 108 = .ok (.putfield 43, 3) := by decide +kernel
theorem dX10_init_111 : decode cX10_init 111 = .ok (.aload_n 0, 1) := by decide +kernel
theorem dX10_init_112 : decode cX10_init 112 = .ok (.sipush 1200, 3) := by decide +kernel
theorem dX10_init_115 : decode cX10_init 115 = .ok (.newarray .boolean, 2) := by decide +kernel
theorem dX10_init_117 : decode cX10_init 117 = .ok (.putfield 46, 3) := by decide +kernel
theorem dX10_init_120 : decode cX10_init 120 = .ok (.aload_n 0, 1) := by decide +kernel
theorem dX10_init_121 : decode cX10_init 121 = .ok (.sipush 1200, 3) := by decide +kernel
theorem dX10_init_124 : decode cX10_init 124 = .ok (.newarray .boolean, 2) := by decide +kernel
theorem dX10_init_126 : decode cX10_init 126 = .ok (.putfield 50, 3) := by decide +kernel
theorem dX10_init_129 : decode cX10_init 129 = .ok (.aload_n 0, 1) := by decide +kernel
theorem dX10_init_130 : decode cX10_init 130 = .ok (.sipush 1200, 3) := by decide +kernel
theorem dX10_init_133 : decode cX10_init 133 = .ok (.newarray .boolean, 2) := by decide +kernel
theorem dX10_init_135 : decode cX10_init 135 = .ok (.putfield 53, 3) := by decide +kernel
theorem dX10_init_138 : decode cX10_init 138 = .ok (.aload_n 0, 1) := by decide +kernel
theorem dX10_init_139 : decode cX10_init 139 = .ok (.sipush 25221, 3) := by decide +kernel
theorem dX10_init_142 : decode cX10_init 142 = .ok (.newarray .int, 2) := by decide +kernel
theorem dX10_init_144 : decode cX10_init 144 = .ok (.putfield 56, 3) := by decide +kernel
theorem dX10_init_147 : decode cX10_init 147 = .ok (.aload_n 0, 1) := by decide +kernel
theorem dX10_init_148 : decode cX10_init 148 = .ok (.sipush 25221, 3) := by decide +kernel
theorem dX10_init_151 : decode cX10_init 151 = .ok (.newarray .int, 2) := by decide +kernel
theorem dX10_init_153 : decode cX10_init 153 = .ok (.putfield 59, 3) := by decide +kernel
theorem dX10_init_156 : decode cX10_init 156 = .ok (.aload_n 0, 1) := by decide +kernel
theorem dX10_init_157 : decode cX10_init 157 = .ok (.sipush 200, 3) := by decide +kernel
theorem dX10_init_160 : decode cX10_init 160 = .ok (.newarray .int, 2) := by decide +kernel
theorem dX10_init_162 : decode cX10_init 162 = .ok (.putfield 62, 3) := by decide +kernel
theorem dX10_init_165 : decode cX10_init 165 = .ok (.aload_n 0, 1) := by decide +kernel
theorem dX10_init_166 : decode cX10_init 166 = .ok (.sipush 200, 3) := by decide +kernel
theorem dX10_init_169 : decode cX10_init 169 = .ok (.newarray .int, 2) := by decide +kernel
theorem dX10_init_171 : decode cX10_init 171 = .ok (.putfield 65, 3) := by decide +kernel
theorem dX10_init_174 : decode cX10_init 174 = .ok (.aload_n 0, 1) := by decide +kernel
theorem dX10_init_175 : decode cX10_init 175 = .ok (.sipush 300, 3) := by decide +kernel
theorem dX10_init_178 : decode cX10_init 178 = .ok (.newarray .int, 2) := by decide +kernel
theorem dX10_init_180 : decode cX10_init 180 = .ok (.putfield 68, 3) := by decide +kernel
theorem dX10_init_183 : decode cX10_init 183 = .ok (.aload_n 0, 1) := by decide +kernel
theorem dX10_init_184 : decode cX10_init 184 = .ok (.sipush 240, 3) := by decide +kernel
theorem dX10_init_187 : decode cX10_init 187 = .ok (.newarray .int, 2) := by decide +kernel
theorem dX10_init_189 : decode cX10_init 189 = .ok (.putfield 71, 3) := by decide +kernel
theorem dX10_init_192 : decode cX10_init 192 = .ok (.aload_n 0, 1) := by decide +kernel
theorem dX10_init_193 : decode cX10_init 193 = .ok (.iconst (-1), 1) := by decide +kernel
theorem dX10_init_194 : decode cX10_init 194 = .ok (.putfield 74, 3) := by decide +kernel
theorem dX10_init_197 : decode cX10_init 197 = .ok (.aload_n 0, 1) := by decide +kernel
theorem dX10_init_198 : decode cX10_init 198 = .ok (.sipush 200, 3) := by decide +kernel
theorem dX10_init_201 : decode cX10_init 201 = .ok (.newarray .int, 2) := by decide +kernel
theorem dX10_init_203 : decode cX10_init 203 = .ok (.putfield 78, 3) := by decide +kernel
theorem dX10_init_206 : decode cX10_init 206 = .ok (.aload_n 0, 1) := by decide +kernel
theorem dX10_init_207 : decode cX10_init 207 = .ok (.sipush 200, 3) := by decide +kernel
theorem dX10_init_210 : decode cX10_init 210 = .ok (.newarray .int, 2) := by decide +kernel
theorem dX10_init_212 : decode cX10_init 212 = .ok (.putfield 81, 3) := by decide +kernel
theorem dX10_init_215 : decode cX10_init 215 = .ok (.aload_n 0, 1) := by decide +kernel
theorem dX10_init_216 : decode cX10_init 216 = .ok (.sipush 1052, 3) := by decide +kernel
theorem dX10_init_219 : decode cX10_init 219 = .ok (.newarray .int, 2) := by decide +kernel
theorem dX10_init_221 : decode cX10_init 221 = .ok (.putfield 84, 3) := by decide +kernel
theorem dX10_init_224 : decode cX10_init 224 = .ok (.aload_n 0, 1) := by decide +kernel
theorem dX10_init_225 : decode cX10_init 225 = .ok (.bipush 31, 2) := by decide +kernel
theorem dX10_init_227 : decode cX10_init 227 = .ok (.newarray .int, 2) := by decide +kernel
theorem dX10_init_229 : decode cX10_init 229 = .ok (.putfield 87, 3) := by decide +kernel
theorem dX10_init_232 : decode cX10_init 232 = .ok (.aload_n 0, 1) := by decide +kernel
theorem dX10_init_233 : decode cX10_init 233 = .ok (.sipush 6200, 3) := by decide +kernel
theorem dX10_init_236 : decode cX10_init 236 = .ok (.newarray .int, 2) := by decide +kernel
theorem dX10_init_238 : decode cX10_init 238 = .ok (.putfield 90, 3) := by decide +kernel
theorem dX10_init_241 : decode cX10_init 241 = .ok (.aload_n 0, 1) := by decide +kernel
theorem dX10_init_242 : decode cX10_init 242 = .ok (.sipush 496, 3) := by decide +kernel
theorem dX10_init_245 : decode cX10_init 245 = .ok (.newarray .int, 2) := by decide +kernel
theorem dX10_init_247 : decode cX10_init 247 = .ok (.putfield 93, 3) := by decide +kernel
theorem dX10_init_250 : decode cX10_init 250 = .ok (.aload_n 0, 1) := by decide +kernel
theorem dX10_init_251 : decode cX10_init 251 = .ok (.bipush 31, 2) := by decide +kernel
theorem dX10_init_253 : decode cX10_init 253 = .ok (.newarray .int, 2) := by decide +kernel
theorem dX10_init_255 : decode cX10_init 255 = .ok (.putfield 96, 3) := by decide +kernel
theorem dX10_init_258 : decode cX10_init 258 = .ok (.aload_n 0, 1) := by decide +kernel
theorem dX10_init_259 : decode cX10_init 259 = .ok (.getfield 7, 3) := by decide +kernel
theorem dX10_init_262 : decode cX10_init 262 = .ok (.bipush 6, 2) := by decide +kernel
theorem dX10_init_264 : decode cX10_init 264 = .ok (.bipush 20, 2) := by decide +kernel
theorem dX10_init_266 : decode cX10_init 266 = .ok (.iastore, 1) := by decide +kernel
theorem dX10_init_267 : decode cX10_init 267 = .ok (.aload_n 0, 1) := by decide +kernel
theorem dX10_init_268 : decode cX10_init 268 = .ok (.getfield 7, 3) := by decide +kernel
theorem dX10_init_271 : decode cX10_init 271 = .ok (.aload_n 0, 1) := by decide +kernel
theorem dX10_init_272 : decode cX10_init 272 = .ok (.getfield 13, 3) := by decide +kernel
theorem dX10_init_275 : decode cX10_init 275 = .ok (.invokestatic 99, 3) := by decide +kernel
theorem dX10_init_278 : decode cX10_init 278 = .ok (.return_, 1) := by decide +kernel
theorem dX10_copy_0 : decode cX10_copy 0 = .ok (.iconst 0, 1) := by decide +kernel
theorem dX10_copy_1 : decode cX10_copy 1 = .ok (.istore_n 2, 1) := by decide +kernel
theorem dX10_copy_2 : decode cX10_copy 2 = .ok (.iload_n 2, 1) := by decide +kernel
theorem dX10_copy_3 : decode cX10_copy 3 = .ok (.sipush 22094, 3) := by decide +kernel
theorem dX10_copy_6 : decode cX10_copy 6 = .ok (.if_icmp .ge 15, 3) := by decide +kernel
theorem dX10_copy_9 : decode cX10_copy 9 = .ok (.aload_n 1, 1) := by decide +kernel
theorem dX10_copy_10 : decode cX10_copy 10 = .ok (.iload_n 2, 1) := by decide +kernel
theorem dX10_copy_11 : decode cX10_copy 11 = .ok (.aload_n 0, 1) := by decide +kernel
theorem dX10_copy_12 : decode cX10_copy 12 = .ok (.iload_n 2, 1) := by decide +kernel
theorem dX10_copy_13 : decode cX10_copy 13 = .ok (.iaload, 1) := by decide +kernel
theorem dX10_copy_14 : decode cX10_copy 14 = .ok (.iastore, 1) := by decide +kernel
theorem dX10_copy_15 : decode cX10_copy 15 = .ok (.iinc 2 1, 3) := by decide +kernel
theorem dX10_copy_18 : decode cX10_copy 18 = .ok (.goto (-16), 3) := by decide +kernel
theorem dX10_copy_21 : decode cX10_copy 21 = .ok (.return_, 1) := by decide +kernel
theorem dX10_isIn_0 : decode cX10_isIn 0 = .ok (.iload_n 0, 1) := by decide +kernel
theorem dX10_isIn_1 : decode cX10_isIn 1 = .ok (.iload_n 1, 1) := by decide +kernel
theorem dX10_isIn_2 : decode cX10_isIn 2 = .ok (.if_icmp .lt 12, 3) := by decide +kernel
theorem dX10_isIn_5 : decode cX10_isIn 5 = .ok (.iload_n 0, 1) := by decide +kernel
theorem dX10_isIn_6 : decode cX10_isIn 6 = .ok (.iload_n 2, 1) := by decide +kernel
theorem dX10_isIn_7 : decode cX10_isIn 7 = .ok (.if_icmp .gt 7, 3) := by decide +kernel
theorem dX10_isIn_10 : decode cX10_isIn 10 = .ok (.iconst 1, 1) := by decide +kernel
theorem dX10_isIn_11 : decode cX10_isIn 11 = .ok (.goto 4, 3) := by decide +kernel
theorem dX10_isIn_14 : decode cX10_isIn 14 = .ok (.iconst 0, 1) := by decide +kernel
theorem dX10_isIn_15 : decode cX10_isIn 15 = .ok (.ireturn, 1) := by decide +kernel
theorem dX10_isLetter_0 : decode cX10_isLetter 0 = .ok (.iload_n 0, 1) := by decide +kernel
theorem dX10_isLetter_1 : decode cX10_isLetter 1 = .ok (.bipush 97, 2) := by decide +kernel
theorem dX10_isLetter_3 : decode cX10_isLetter 3 = .ok (.if_icmp .lt 13, 3) := by decide +kernel
theorem dX10_isLetter_6 : decode cX10_isLetter 6 = .ok (.iload_n 0, 1) := by decide +kernel
theorem dX10_isLetter_7 : decode cX10_isLetter 7 = .ok (.bipush 122, 2) := by decide +kernel
theorem dX10_isLetter_9 : decode cX10_isLetter 9 = .ok (.if_icmp .gt 7, 3) := by decide +kernel
theorem dX10_isLetter_12 : decode cX10_isLetter 12 = .ok (.iconst 1, 1) := by decide +kernel
theorem dX10_isLetter_13 : decode cX10_isLetter 13 = .ok (.goto 4, 3) := by decide +kernel
theorem dX10_isLetter_16 : decode cX10_isLetter 16 = .ok (.iconst 0, 1) := by decide +kernel
theorem dX10_isLetter_17 : decode cX10_isLetter 17 = .ok (.ireturn, 1) := by decide +kernel
theorem dX10_isFigure_0 : decode cX10_isFigure 0 = .ok (.iload_n 0, 1) := by decide +kernel
theorem dX10_isFigure_1 : decode cX10_isFigure 1 = .ok (.bipush 48, 2) := by decide +kernel
theorem dX10_isFigure_3 : decode cX10_isFigure 3 = .ok (.if_icmp .lt 13, 3) := by decide +kernel
theorem dX10_isFigure_6 : decode cX10_isFigure 6 = .ok (.iload_n 0, 1) := by decide +kernel
theorem dX10_isFigure_7 : decode cX10_isFigure 7 = .ok (.bipush 57, 2) := by decide +kernel
theorem dX10_isFigure_9 : decode cX10_isFigure 9 = .ok (.if_icmp .gt 7, 3) := by decide +kernel
theorem dX10_isFigure_12 : decode cX10_isFigure 12 = .ok (.iconst 1, 1) := by decide +kernel
theorem dX10_isFigure_13 : decode cX10_isFigure 13 = .ok (.goto 4, 3) := by decide +kernel
theorem dX10_isFigure_16 : decode cX10_isFigure 16 = .ok (.iconst 0, 1) := by decide +kernel
theorem dX10_isFigure_17 : decode cX10_isFigure 17 = .ok (.ireturn, 1) := by decide +kernel
theorem dX10_isBlank_0 : decode cX10_isBlank 0 = .ok (.iload_n 0, 1) := by decide +kernel
theorem dX10_isBlank_1 : decode cX10_isBlank 1 = .ok (.bipush 32, 2) := by decide +kernel
theorem dX10_isBlank_3 : decode cX10_isBlank 3 = .ok (.if_icmp .eq 9, 3) := by decide +kernel
theorem dX10_isBlank_6 : decode cX10_isBlank 6 = .ok (.iload_n 0, 1) := by decide +kernel
theorem dX10_isBlank_7 : decode cX10_isBlank 7 = .ok (.bipush 10, 2) := by decide +kernel
theorem dX10_isBlank_9 : decode cX10_isBlank 9 = .ok (.if_icmp .ne 7, 3) := by decide +kernel
theorem dX10_isBlank_12 : decode cX10_isBlank 12 = .ok (.iconst 1, 1) := by decide +kernel
theorem dX10_isBlank_13 : decode cX10_isBlank 13 = .ok (.goto 4, 3) := by decide +kernel
theorem dX10_isBlank_16 : decode cX10_isBlank 16 = .ok (.iconst 0, 1) := by decide +kernel
theorem dX10_isBlank_17 : decode cX10_isBlank 17 = .ok (.ireturn, 1) := by decide +kernel
theorem dX10_isByte_0 : decode cX10_isByte 0 = .ok (.iload_n 0, 1) := by decide +kernel
theorem dX10_isByte_1 : decode cX10_isByte 1 = .ok (.bipush 10, 2) := by decide +kernel
theorem dX10_isByte_3 : decode cX10_isByte 3 = .ok (.if_icmp .eq 14, 3) := by decide +kernel
theorem dX10_isByte_6 : decode cX10_isByte 6 = .ok (.iload_n 0, 1) := by decide +kernel
theorem dX10_isByte_7 : decode cX10_isByte 7 = .ok (.bipush 32, 2) := by decide +kernel
theorem dX10_isByte_9 : decode cX10_isByte 9 = .ok (.bipush 126, 2) := by decide +kernel
theorem dX10_isByte_11 : decode cX10_isByte 11 = .ok (.invokestatic 103, 3) := by decide +kernel
theorem dX10_isByte_14 : decode cX10_isByte 14 = .ok (.ifCond .eq 7, 3) := by decide +kernel
theorem dX10_isByte_17 : decode cX10_isByte 17 = .ok (.iconst 1, 1) := by decide +kernel
theorem dX10_isByte_18 : decode cX10_isByte 18 = .ok (.goto 4, 3) := by decide +kernel
theorem dX10_isByte_21 : decode cX10_isByte 21 = .ok (.iconst 0, 1) := by decide +kernel
theorem dX10_isByte_22 : decode cX10_isByte 22 = .ok (.ireturn, 1) := by decide +kernel
theorem dX10_sortOf_0 : decode cX10_sortOf 0 = .ok (.iload_n 0, 1) := by decide +kernel
theorem dX10_sortOf_1 : decode cX10_sortOf 1 = .ok (.invokestatic 107, 3) := by decide +kernel
theorem dX10_sortOf_4 : decode cX10_sortOf 4 = .ok (.ifCond .eq 7, 3) := by decide +kernel
theorem dX10_sortOf_7 : decode cX10_sortOf 7 = .ok (.iconst 0, 1) := by decide +kernel
theorem dX10_sortOf_8 : decode cX10_sortOf 8 = .ok (.goto 26, 3) := by decide +kernel
theorem dX10_sortOf_11 : decode cX10_sortOf 11 = .ok (.iload_n 0, 1) := by decide +kernel
theorem dX10_sortOf_12 : decode cX10_sortOf 12 = .ok (.invokestatic 111, 3) := by decide +kernel
theorem dX10_sortOf_15 : decode cX10_sortOf 15 = .ok (.ifCond .eq 7, 3) := by decide +kernel
theorem dX10_sortOf_18 : decode cX10_sortOf 18 = .ok (.iconst 1, 1) := by decide +kernel
theorem dX10_sortOf_19 : decode cX10_sortOf 19 = .ok (.goto 15, 3) := by decide +kernel
theorem dX10_sortOf_22 : decode cX10_sortOf 22 = .ok (.iload_n 0, 1) := by decide +kernel
theorem dX10_sortOf_23 : decode cX10_sortOf 23 = .ok (.invokestatic 114, 3) := by decide +kernel
theorem dX10_sortOf_26 : decode cX10_sortOf 26 = .ok (.ifCond .eq 7, 3) := by decide +kernel
theorem dX10_sortOf_29 : decode cX10_sortOf 29 = .ok (.iconst 3, 1) := by decide +kernel
theorem dX10_sortOf_30 : decode cX10_sortOf 30 = .ok (.goto 4, 3) := by decide +kernel
theorem dX10_sortOf_33 : decode cX10_sortOf 33 = .ok (.iconst 2, 1) := by decide +kernel
theorem dX10_sortOf_34 : decode cX10_sortOf 34 = .ok (.ireturn, 1) := by decide +kernel
theorem dX10_byteAt_0 : decode cX10_byteAt 0 = .ok (.aload_n 0, 1) := by decide +kernel
theorem dX10_byteAt_1 : decode cX10_byteAt 1 = .ok (.getfield 7, 3) := by decide +kernel
theorem dX10_byteAt_4 : decode cX10_byteAt 4 = .ok (.bipush 10, 2) := by decide +kernel
theorem dX10_byteAt_6 : decode cX10_byteAt 6 = .ok (.iload_n 1, 1) := by decide +kernel
theorem dX10_byteAt_7 : decode cX10_byteAt 7 = .ok (.iadd, 1) := by decide +kernel
theorem dX10_byteAt_8 : decode cX10_byteAt 8 = .ok (.iaload, 1) := by decide +kernel
theorem dX10_byteAt_9 : decode cX10_byteAt 9 = .ok (.ireturn, 1) := by decide +kernel
theorem dX10_layTokens_0 : decode cX10_layTokens 0 = .ok (.aload_n 0, 1) := by decide +kernel
theorem dX10_layTokens_1 : decode cX10_layTokens 1 = .ok (.iconst 0, 1) := by decide +kernel
theorem dX10_layTokens_2 : decode cX10_layTokens 2 = .ok (.putfield 117, 3) := by decide +kernel
theorem dX10_layTokens_5 : decode cX10_layTokens 5 = .ok (.iconst 0, 1) := by decide +kernel
theorem dX10_layTokens_6 : decode cX10_layTokens 6 = .ok (.istore_n 1, 1) := by decide +kernel
theorem dX10_layTokens_7 : decode cX10_layTokens 7 = .ok (.iload_n 1, 1) := by decide +kernel
theorem dX10_layTokens_8 : decode cX10_layTokens 8 = .ok (.aload_n 0, 1) := by decide +kernel
theorem dX10_layTokens_9 : decode cX10_layTokens 9 = .ok (.getfield 7, 3) := by decide +kernel
theorem dX10_layTokens_12 : decode cX10_layTokens 12 = .ok (.iconst 2, 1) := by decide +kernel
theorem dX10_layTokens_13 : decode cX10_layTokens 13 = .ok (.iaload, 1) := by decide +kernel
theorem dX10_layTokens_14 : decode cX10_layTokens 14 = .ok (.if_icmp .ge 88, 3) := by decide +kernel
theorem dX10_layTokens_17 : decode cX10_layTokens 17 = .ok (.aload_n 0, 1) := by decide +kernel
theorem dX10_layTokens_18 : decode cX10_layTokens 18 = .ok (.iload_n 1, 1) := by decide +kernel
theorem dX10_layTokens_19 : decode cX10_layTokens 19 = .ok (.invokevirtual 120, 3) := by decide +kernel
theorem dX10_layTokens_22 : decode cX10_layTokens 22 = .ok (.invokestatic 124, 3) := by decide +kernel
theorem dX10_layTokens_25 : decode cX10_layTokens 25 = .ok (.istore_n 2, 1) := by decide +kernel
theorem dX10_layTokens_26 : decode cX10_layTokens 26 = .ok (.iconst 1, 1) := by decide +kernel
theorem dX10_layTokens_27 : decode cX10_layTokens 27 = .ok (.istore_n 3, 1) := by decide +kernel
theorem dX10_layTokens_28 : decode cX10_layTokens 28 = .ok (.iload_n 2, 1) := by decide +kernel
theorem dX10_layTokens_29 : decode cX10_layTokens 29 = .ok (.iconst 2, 1) := by decide +kernel
theorem dX10_layTokens_30 : decode cX10_layTokens 30 = .ok (.if_icmp .eq 35, 3) := by decide +kernel
theorem dX10_layTokens_33 : decode cX10_layTokens 33 = .ok (.iload_n 1, 1) := by decide +kernel
theorem dX10_layTokens_34 : decode cX10_layTokens 34 = .ok (.iload_n 3, 1) := by decide +kernel
theorem dX10_layTokens_35 : decode cX10_layTokens 35 = .ok (.iadd, 1) := by decide +kernel
theorem dX10_layTokens_36 : decode cX10_layTokens 36 = .ok (.aload_n 0, 1) := by decide +kernel
theorem dX10_layTokens_37 : decode cX10_layTokens 37 = .ok (.getfield 7, 3) := by decide +kernel
theorem dX10_layTokens_40 : decode cX10_layTokens 40 = .ok (.iconst 2, 1) := by decide +kernel
theorem dX10_layTokens_41 : decode cX10_layTokens 41 = .ok (.iaload, 1) := by decide +kernel
theorem dX10_layTokens_42 : decode cX10_layTokens 42 = .ok (.if_icmp .ge 23, 3) := by decide +kernel
theorem dX10_layTokens_45 : decode cX10_layTokens 45 = .ok (.aload_n 0, 1) := by decide +kernel
theorem dX10_layTokens_46 : decode cX10_layTokens 46 = .ok (.iload_n 1, 1) := by decide +kernel
theorem dX10_layTokens_47 : decode cX10_layTokens 47 = .ok (.iload_n 3, 1) := by decide +kernel
theorem dX10_layTokens_48 : decode cX10_layTokens 48 = .ok (.iadd, 1) := by decide +kernel
theorem dX10_layTokens_49 : decode cX10_layTokens 49 = .ok (.invokevirtual 120, 3) := by decide +kernel
theorem dX10_layTokens_52 : decode cX10_layTokens 52 = .ok (.invokestatic 124, 3) := by decide +kernel
theorem dX10_layTokens_55 : decode cX10_layTokens 55 = .ok (.iload_n 2, 1) := by decide +kernel
theorem dX10_layTokens_56 : decode cX10_layTokens 56 = .ok (.if_icmp .ne 9, 3) := by decide +kernel
theorem dX10_layTokens_59 : decode cX10_layTokens 59 = .ok (.iinc 3 1, 3) := by decide +kernel
theorem dX10_layTokens_62 : decode cX10_layTokens 62 = .ok (.goto (-34), 3) := by decide +kernel
theorem dX10_layTokens_65 : decode cX10_layTokens 65 = .ok (.aload_n 0, 1) := by decide +kernel
theorem dX10_layTokens_66 : decode cX10_layTokens 66 = .ok (.getfield 16, 3) := by decide +kernel
theorem dX10_layTokens_69 : decode cX10_layTokens 69 = .ok (.aload_n 0, 1) := by decide +kernel
theorem dX10_layTokens_70 : decode cX10_layTokens 70 = .ok (.getfield 117, 3) := by decide +kernel
theorem dX10_layTokens_73 : decode cX10_layTokens 73 = .ok (.iload_n 1, 1) := by decide +kernel
theorem dX10_layTokens_74 : decode cX10_layTokens 74 = .ok (.iastore, 1) := by decide +kernel
theorem dX10_layTokens_75 : decode cX10_layTokens 75 = .ok (.aload_n 0, 1) := by decide +kernel
theorem dX10_layTokens_76 : decode cX10_layTokens 76 = .ok (.getfield 19, 3) := by decide +kernel
theorem dX10_layTokens_79 : decode cX10_layTokens 79 = .ok (.aload_n 0, 1) := by decide +kernel
theorem dX10_layTokens_80 : decode cX10_layTokens 80 = .ok (.getfield 117, 3) := by decide +kernel
theorem dX10_layTokens_83 : decode cX10_layTokens 83 = .ok (.iload_n 3, 1) := by decide +kernel
theorem dX10_layTokens_84 : decode cX10_layTokens 84 = .ok (.iastore, 1) := by decide +kernel
theorem dX10_layTokens_85 : decode cX10_layTokens 85 = .ok (.aload_n 0, 1) := by decide +kernel
theorem dX10_layTokens_86 : decode cX10_layTokens 86 = .ok (.dup, 1) := by decide +kernel
theorem dX10_layTokens_87 : decode cX10_layTokens 87 = .ok (.getfield 117, 3) := by decide +kernel
theorem dX10_layTokens_90 : decode cX10_layTokens 90 = .ok (.iconst 1, 1) := by decide +kernel
theorem dX10_layTokens_91 : decode cX10_layTokens 91 = .ok (.iadd, 1) := by decide +kernel
theorem dX10_layTokens_92 : decode cX10_layTokens 92 = .ok (.putfield 117, 3) := by decide +kernel
theorem dX10_layTokens_95 : decode cX10_layTokens 95 = .ok (.iload_n 1, 1) := by decide +kernel
theorem dX10_layTokens_96 : decode cX10_layTokens 96 = .ok (.iload_n 3, 1) := by decide +kernel
theorem dX10_layTokens_97 : decode cX10_layTokens 97 = .ok (.iadd, 1) := by decide +kernel
theorem dX10_layTokens_98 : decode cX10_layTokens 98 = .ok (.istore_n 1, 1) := by decide +kernel
theorem dX10_layTokens_99 : decode cX10_layTokens 99 = .ok (.goto (-92), 3) := by decide +kernel
theorem dX10_layTokens_102 : decode cX10_layTokens 102 = .ok (.return_, 1) := by decide +kernel
theorem dX10_areLike_0 : decode cX10_areLike 0 = .ok (.aload_n 0, 1) := by decide +kernel
theorem dX10_areLike_1 : decode cX10_areLike 1 = .ok (.getfield 19, 3) := by decide +kernel
theorem dX10_areLike_4 : decode cX10_areLike 4 = .ok (.iload_n 1, 1) := by decide +kernel
theorem dX10_areLike_5 : decode cX10_areLike 5 = .ok (.iaload, 1) := by decide +kernel
theorem dX10_areLike_6 : decode cX10_areLike 6 = .ok (.aload_n 0, 1) := by decide +kernel
theorem dX10_areLike_7 : decode cX10_areLike 7 = .ok (.getfield 19, 3) := by decide +kernel
theorem dX10_areLike_10 : decode cX10_areLike 10 = .ok (.iload_n 2, 1) := by decide +kernel
theorem dX10_areLike_11 : decode cX10_areLike 11 = .ok (.iaload, 1) := by decide +kernel
theorem dX10_areLike_12 : decode cX10_areLike 12 = .ok (.if_icmp .eq 5, 3) := by decide +kernel
theorem dX10_areLike_15 : decode cX10_areLike 15 = .ok (.iconst 0, 1) := by decide +kernel
theorem dX10_areLike_16 : decode cX10_areLike 16 = .ok (.ireturn, 1) := by decide +kernel
theorem dX10_areLike_17 : decode cX10_areLike 17 = .ok (.iconst 0, 1) := by decide +kernel
theorem dX10_areLike_18 : decode cX10_areLike 18 = .ok (.istore_n 3, 1) := by decide +kernel
theorem dX10_areLike_19 : decode cX10_areLike 19 = .ok (.iload_n 3, 1) := by decide +kernel
theorem dX10_areLike_20 : decode cX10_areLike 20 = .ok (.aload_n 0, 1) := by decide +kernel
theorem dX10_areLike_21 : decode cX10_areLike 21 = .ok (.getfield 19, 3) := by decide +kernel
theorem dX10_areLike_24 : decode cX10_areLike 24 = .ok (.iload_n 1, 1) := by decide +kernel
theorem dX10_areLike_25 : decode cX10_areLike 25 = .ok (.iaload, 1) := by decide +kernel
theorem dX10_areLike_26 : decode cX10_areLike 26 = .ok (.if_icmp .ge 38, 3) := by decide +kernel
theorem dX10_areLike_29 : decode cX10_areLike 29 = .ok (.aload_n 0, 1) := by decide +kernel
theorem dX10_areLike_30 : decode cX10_areLike 30 = .ok (.aload_n 0, 1) := by decide +kernel
theorem dX10_areLike_31 : decode cX10_areLike 31 = .ok (.getfield 16, 3) := by decide +kernel
theorem dX10_areLike_34 : decode cX10_areLike 34 = .ok (.iload_n 1, 1) := by decide +kernel
theorem dX10_areLike_35 : decode cX10_areLike 35 = .ok (.iaload, 1) := by decide +kernel
theorem dX10_areLike_36 : decode cX10_areLike 36 = .ok (.iload_n 3, 1) := by decide +kernel
theorem dX10_areLike_37 : decode cX10_areLike 37 = .ok (.iadd, 1) := by decide +kernel
theorem dX10_areLike_38 : decode cX10_areLike 38 = .ok (.invokevirtual 120, 3) := by decide +kernel
theorem dX10_areLike_41 : decode cX10_areLike 41 = .ok (.aload_n 0, 1) := by decide +kernel
theorem dX10_areLike_42 : decode cX10_areLike 42 = .ok (.aload_n 0, 1) := by decide +kernel
theorem dX10_areLike_43 : decode cX10_areLike 43 = .ok (.getfield 16, 3) := by decide +kernel
theorem dX10_areLike_46 : decode cX10_areLike 46 = .ok (.iload_n 2, 1) := by decide +kernel
theorem dX10_areLike_47 : decode cX10_areLike 47 = .ok (.iaload, 1) := by decide +kernel
theorem dX10_areLike_48 : decode cX10_areLike 48 = .ok (.iload_n 3, 1) := by decide +kernel
theorem dX10_areLike_49 : decode cX10_areLike 49 = .ok (.iadd, 1) := by decide +kernel
theorem dX10_areLike_50 : decode cX10_areLike 50 = .ok (.invokevirtual 120, 3) := by decide +kernel
theorem dX10_areLike_53 : decode cX10_areLike 53 = .ok (.if_icmp .eq 5, 3) := by decide +kernel
theorem dX10_areLike_56 : decode cX10_areLike 56 = .ok (.iconst 0, 1) := by decide +kernel
theorem dX10_areLike_57 : decode cX10_areLike 57 = .ok (.ireturn, 1) := by decide +kernel
theorem dX10_areLike_58 : decode cX10_areLike 58 = .ok (.iinc 3 1, 3) := by decide +kernel
theorem dX10_areLike_61 : decode cX10_areLike 61 = .ok (.goto (-42), 3) := by decide +kernel
theorem dX10_areLike_64 : decode cX10_areLike 64 = .ok (.iconst 1, 1) := by decide +kernel
theorem dX10_areLike_65 : decode cX10_areLike 65 = .ok (.ireturn, 1) := by decide +kernel
theorem dX10_get_0 : decode cX10_get 0 = .ok (.aload_n 0, 1) := by decide +kernel
theorem dX10_get_1 : decode cX10_get 1 = .ok (.getfield 7, 3) := by decide +kernel
theorem dX10_get_4 : decode cX10_get 4 = .ok (.sipush 514, 3) := by decide +kernel
theorem dX10_get_7 : decode cX10_get 7 = .ok (.bipush 40, 2) := by decide +kernel
theorem dX10_get_9 : decode cX10_get 9 = .ok (.iload_n 1, 1) := by decide +kernel
theorem dX10_get_10 : decode cX10_get 10 = .ok (.imul, 1) := by decide +kernel
theorem dX10_get_11 : decode cX10_get 11 = .ok (.iadd, 1) := by decide +kernel
theorem dX10_get_12 : decode cX10_get 12 = .ok (.iload_n 2, 1) := by decide +kernel
theorem dX10_get_13 : decode cX10_get 13 = .ok (.iadd, 1) := by decide +kernel
theorem dX10_get_14 : decode cX10_get 14 = .ok (.iaload, 1) := by decide +kernel
theorem dX10_get_15 : decode cX10_get 15 = .ok (.ireturn, 1) := by decide +kernel
theorem dX10_elementOf_0 : decode cX10_elementOf 0 = .ok (.aload_n 0, 1) := by decide +kernel
theorem dX10_elementOf_1 : decode cX10_elementOf 1 = .ok (.iload_n 1, 1) := by decide +kernel
theorem dX10_elementOf_2 : decode cX10_elementOf 2 = .ok (.iconst 4, 1) := by decide +kernel
theorem dX10_elementOf_3 : decode cX10_elementOf 3 = .ok (.iconst 3, 1) := by decide +kernel
theorem dX10_elementOf_4 : decode cX10_elementOf 4 = .ok (.iload_n 2, 1) := by decide +kernel
theorem dX10_elementOf_5 : decode cX10_elementOf 5 = .ok (.imul, 1) := by decide +kernel
theorem dX10_elementOf_6 : decode cX10_elementOf 6 = .ok (.iadd, 1) := by decide +kernel
theorem dX10_elementOf_7 : decode cX10_elementOf 7 = .ok (.iload_n 3, 1) := by decide +kernel
theorem dX10_elementOf_8 : decode cX10_elementOf 8 = .ok (.iadd, 1) := by decide +kernel
theorem dX10_elementOf_9 : decode cX10_elementOf 9 = .ok (.invokevirtual 127, 3) := by decide +kernel
theorem dX10_elementOf_12 : decode cX10_elementOf 12 = .ok (.ireturn, 1) := by decide +kernel
theorem dX10_partOf_0 : decode cX10_partOf 0 = .ok (.aload_n 0, 1) := by decide +kernel
theorem dX10_partOf_1 : decode cX10_partOf 1 = .ok (.iload_n 1, 1) := by decide +kernel
theorem dX10_partOf_2 : decode cX10_partOf 2 = .ok (.bipush 22, 2) := by decide +kernel
theorem dX10_partOf_4 : decode cX10_partOf 4 = .ok (.iconst 3, 1) := by decide +kernel
theorem dX10_partOf_5 : decode cX10_partOf 5 = .ok (.iload_n 2, 1) := by decide +kernel
theorem dX10_partOf_6 : decode cX10_partOf 6 = .ok (.imul, 1) := by decide +kernel
theorem dX10_partOf_7 : decode cX10_partOf 7 = .ok (.iadd, 1) := by decide +kernel
theorem dX10_partOf_8 : decode cX10_partOf 8 = .ok (.iload_n 3, 1) := by decide +kernel
theorem dX10_partOf_9 : decode cX10_partOf 9 = .ok (.iadd, 1) := by decide +kernel
theorem dX10_partOf_10 : decode cX10_partOf 10 = .ok (.invokevirtual 127, 3) := by decide +kernel
theorem dX10_partOf_13 : decode cX10_partOf 13 = .ok (.ireturn, 1) := by decide +kernel
theorem dX10_isRule_0 : decode cX10_isRule 0 = .ok (.iload_n 1, 1) := by decide +kernel
theorem dX10_isRule_1 : decode cX10_isRule 1 = .ok (.iconst 0, 1) := by decide +kernel
theorem dX10_isRule_2 : decode cX10_isRule 2 = .ok (.aload_n 0, 1) := by decide +kernel
theorem dX10_isRule_3 : decode cX10_isRule 3 = .ok (.getfield 7, 3) := by decide +kernel
theorem dX10_isRule_6 : decode cX10_isRule 6 = .ok (.iconst 4, 1) := by decide +kernel
theorem dX10_isRule_7 : decode cX10_isRule 7 = .ok (.iaload, 1) := by decide +kernel
theorem dX10_isRule_8 : decode cX10_isRule 8 = .ok (.iconst 1, 1) := by decide +kernel
theorem dX10_isRule_9 : decode cX10_isRule 9 = .ok (.isub, 1) := by decide +kernel
theorem dX10_isRule_10 : decode cX10_isRule 10 = .ok (.invokestatic 103, 3) := by decide +kernel
theorem dX10_isRule_13 : decode cX10_isRule 13 = .ok (.ireturn, 1) := by decide +kernel
theorem dX10_isSaid_0 : decode cX10_isSaid 0 = .ok (.aload_n 0, 1) := by decide +kernel
theorem dX10_isSaid_1 : decode cX10_isSaid 1 = .ok (.iload_n 1, 1) := by decide +kernel
theorem dX10_isSaid_2 : decode cX10_isSaid 2 = .ok (.iload_n 2, 1) := by decide +kernel
theorem dX10_isSaid_3 : decode cX10_isSaid 3 = .ok (.iconst 1, 1) := by decide +kernel
theorem dX10_isSaid_4 : decode cX10_isSaid 4 = .ok (.invokevirtual 131, 3) := by decide +kernel
theorem dX10_isSaid_7 : decode cX10_isSaid 7 = .ok (.istore 4, 2) := by decide +kernel
theorem dX10_isSaid_9 : decode cX10_isSaid 9 = .ok (.aload_n 0, 1) := by decide +kernel
theorem dX10_isSaid_10 : decode cX10_isSaid 10 = .ok (.iload_n 1, 1) := by decide +kernel
theorem dX10_isSaid_11 : decode cX10_isSaid 11 = .ok (.iload_n 2, 1) := by decide +kernel
theorem dX10_isSaid_12 : decode cX10_isSaid 12 = .ok (.iconst 2, 1) := by decide +kernel
theorem dX10_isSaid_13 : decode cX10_isSaid 13 = .ok (.invokevirtual 131, 3) := by decide +kernel
theorem dX10_isSaid_16 : decode cX10_isSaid 16 = .ok (.aload_n 0, 1) := by decide +kernel
theorem dX10_isSaid_17 : decode cX10_isSaid 17 = .ok (.getfield 19, 3) := by decide +kernel
theorem dX10_isSaid_20 : decode cX10_isSaid 20 = .ok (.iload_n 3, 1) := by decide +kernel
theorem dX10_isSaid_21 : decode cX10_isSaid 21 = .ok (.iaload, 1) := by decide +kernel
theorem dX10_isSaid_22 : decode cX10_isSaid 22 = .ok (.if_icmp .eq 5, 3) := by decide +kernel
theorem dX10_isSaid_25 : decode cX10_isSaid 25 = .ok (.iconst 0, 1) := by decide +kernel
theorem dX10_isSaid_26 : decode cX10_isSaid 26 = .ok (.ireturn, 1) := by decide +kernel
theorem dX10_isSaid_27 : decode cX10_isSaid 27 = .ok (.iconst 0, 1) := by decide +kernel
theorem dX10_isSaid_28 : decode cX10_isSaid 28 = .ok (.istore 5, 2) := by decide +kernel
theorem dX10_isSaid_30 : decode cX10_isSaid 30 = .ok (.iload 5, 2) := by decide +kernel
theorem dX10_isSaid_32 : decode cX10_isSaid 32 = .ok (.aload_n 0, 1) := by decide +kernel
theorem dX10_isSaid_33 : decode cX10_isSaid 33 = .ok (.getfield 19, 3) := by decide +kernel
theorem dX10_isSaid_36 : decode cX10_isSaid 36 = .ok (.iload_n 3, 1) := by decide +kernel
theorem dX10_isSaid_37 : decode cX10_isSaid 37 = .ok (.iaload, 1) := by decide +kernel
theorem dX10_isSaid_38 : decode cX10_isSaid 38 = .ok (.if_icmp .ge 41, 3) := by decide +kernel
theorem dX10_isSaid_41 : decode cX10_isSaid 41 = .ok (.aload_n 0, 1) := by decide +kernel
theorem dX10_isSaid_42 : decode cX10_isSaid 42 = .ok (.getfield 7, 3) := by decide +kernel
theorem dX10_isSaid_45 : decode cX10_isSaid 45 = .ok (.sipush 754, 3) := by decide +kernel
theorem dX10_isSaid_48 : decode cX10_isSaid 48 = .ok (.iload 4, 2) := by decide +kernel
theorem dX10_isSaid_50 : decode cX10_isSaid 50 = .ok (.iadd, 1) := by decide +kernel
theorem dX10_isSaid_51 : decode cX10_isSaid 51 = .ok (.iload 5, 2) := by decide +kernel
theorem dX10_isSaid_53 : decode cX10_isSaid 53 = .ok (.iadd, 1) := by decide +kernel
theorem dX10_isSaid_54 : decode cX10_isSaid 54 = .ok (.iaload, 1) := by decide +kernel
theorem dX10_isSaid_55 : decode cX10_isSaid 55 = .ok (.aload_n 0, 1) := by decide +kernel
theorem dX10_isSaid_56 : decode cX10_isSaid 56 = .ok (.aload_n 0, 1) := by decide +kernel
theorem dX10_isSaid_57 : decode cX10_isSaid 57 = .ok (.getfield 16, 3) := by decide +kernel
theorem dX10_isSaid_60 : decode cX10_isSaid 60 = .ok (.iload_n 3, 1) := by decide +kernel
theorem dX10_isSaid_61 : decode cX10_isSaid 61 = .ok (.iaload, 1) := by decide +kernel
theorem dX10_isSaid_62 : decode cX10_isSaid 62 = .ok (.iload 5, 2) := by decide +kernel
theorem dX10_isSaid_64 : decode cX10_isSaid 64 = .ok (.iadd, 1) := by decide +kernel
theorem dX10_isSaid_65 : decode cX10_isSaid 65 = .ok (.invokevirtual 120, 3) := by decide +kernel
theorem dX10_isSaid_68 : decode cX10_isSaid 68 = .ok (.if_icmp .eq 5, 3) := by decide +kernel
theorem dX10_isSaid_71 : decode cX10_isSaid 71 = .ok (.iconst 0, 1) := by decide +kernel
theorem dX10_isSaid_72 : decode cX10_isSaid 72 = .ok (.ireturn, 1) := by decide +kernel
theorem dX10_isSaid_73 : decode cX10_isSaid 73 = .ok (.iinc 5 1, 3) := by decide +kernel
theorem dX10_isSaid_76 : decode cX10_isSaid 76 = .ok (.goto (-46), 3) := by decide +kernel
theorem dX10_isSaid_79 : decode cX10_isSaid 79 = .ok (.iconst 1, 1) := by decide +kernel
theorem dX10_isSaid_80 : decode cX10_isSaid 80 = .ok (.ireturn, 1) := by decide +kernel
theorem dX10_binds_0 : decode cX10_binds 0 = .ok (.iconst 4, 1) := by decide +kernel
theorem dX10_binds_1 : decode cX10_binds 1 = .ok (.iload_n 1, 1) := by decide +kernel
theorem dX10_binds_2 : decode cX10_binds 2 = .ok (.imul, 1) := by decide +kernel
theorem dX10_binds_3 : decode cX10_binds 3 = .ok (.iload_n 2, 1) := by decide +kernel
theorem dX10_binds_4 : decode cX10_binds 4 = .ok (.iadd, 1) := by decide +kernel
theorem dX10_binds_5 : decode cX10_binds 5 = .ok (.istore 4, 2) := by decide +kernel
theorem dX10_binds_7 : decode cX10_binds 7 = .ok (.aload_n 0, 1) := by decide +kernel
theorem dX10_binds_8 : decode cX10_binds 8 = .ok (.getfield 22, 3) := by decide +kernel
theorem dX10_binds_11 : decode cX10_binds 11 = .ok (.iload 4, 2) := by decide +kernel
theorem dX10_binds_13 : decode cX10_binds 13 = .ok (.iaload, 1) := by decide +kernel
theorem dX10_binds_14 : decode cX10_binds 14 = .ok (.iconst (-1), 1) := by decide +kernel
theorem dX10_binds_15 : decode cX10_binds 15 = .ok (.if_icmp .eq 16, 3) := by decide +kernel
theorem dX10_binds_18 : decode cX10_binds 18 = .ok (.aload_n 0, 1) := by decide +kernel
theorem dX10_binds_19 : decode cX10_binds 19 = .ok (.aload_n 0, 1) := by decide +kernel
theorem dX10_binds_20 : decode cX10_binds 20 = .ok (.getfield 22, 3) := by decide +kernel
theorem dX10_binds_23 : decode cX10_binds 23 = .ok (.iload 4, 2) := by decide +kernel
theorem dX10_binds_25 : decode cX10_binds 25 = .ok (.iaload, 1) := by decide +kernel
theorem dX10_binds_26 : decode cX10_binds 26 = .ok (.iload_n 3, 1) := by decide +kernel
theorem dX10_binds_27 : decode cX10_binds 27 = .ok (.invokevirtual 135, 3) := by decide +kernel
theorem dX10_binds_30 : decode cX10_binds 30 = .ok (.ireturn, 1) := by decide +kernel
theorem dX10_binds_31 : decode cX10_binds 31 = .ok (.aload_n 0, 1) := by decide +kernel
theorem dX10_binds_32 : decode cX10_binds 32 = .ok (.getfield 22, 3) := by decide +kernel
theorem dX10_binds_35 : decode cX10_binds 35 = .ok (.iload 4, 2) := by decide +kernel
theorem dX10_binds_37 : decode cX10_binds 37 = .ok (.iload_n 3, 1) := by decide +kernel
theorem dX10_binds_38 : decode cX10_binds 38 = .ok (.iastore, 1) := by decide +kernel
theorem dX10_binds_39 : decode cX10_binds 39 = .ok (.iconst 1, 1) := by decide +kernel
theorem dX10_binds_40 : decode cX10_binds 40 = .ok (.ireturn, 1) := by decide +kernel
theorem dX10_fitsOne_0 : decode cX10_fitsOne 0 = .ok (.aload_n 0, 1) := by decide +kernel
theorem dX10_fitsOne_1 : decode cX10_fitsOne 1 = .ok (.iload_n 1, 1) := by decide +kernel
theorem dX10_fitsOne_2 : decode cX10_fitsOne 2 = .ok (.iload_n 2, 1) := by decide +kernel
theorem dX10_fitsOne_3 : decode cX10_fitsOne 3 = .ok (.iconst 0, 1) := by decide +kernel
theorem dX10_fitsOne_4 : decode cX10_fitsOne 4 = .ok (.invokevirtual 131, 3) := by decide +kernel
theorem dX10_fitsOne_7 : decode cX10_fitsOne 7 = .ok (.istore 4, 2) := by decide +kernel
theorem dX10_fitsOne_9 : decode cX10_fitsOne 9 = .ok (.iload 4, 2) := by decide +kernel
theorem dX10_fitsOne_11 : decode cX10_fitsOne 11 = .ok (.iconst 4, 1) := by decide +kernel
theorem dX10_fitsOne_12 : decode cX10_fitsOne 12 = .ok (.if_icmp .ne 11, 3) := by decide +kernel
theorem dX10_fitsOne_15 : decode cX10_fitsOne 15 = .ok (.aload_n 0, 1) := by decide +kernel
theorem dX10_fitsOne_16 : decode cX10_fitsOne 16 = .ok (.iload_n 1, 1) := by decide +kernel
theorem dX10_fitsOne_17 : decode cX10_fitsOne 17 = .ok (.iload_n 2, 1) := by decide +kernel
theorem dX10_fitsOne_18 : decode cX10_fitsOne 18 = .ok (.iload_n 3, 1) := by decide +kernel
theorem dX10_fitsOne_19 : decode cX10_fitsOne 19 = .ok (.invokevirtual 139, 3) := by decide +kernel
theorem dX10_fitsOne_22 : decode cX10_fitsOne 22 = .ok (.ireturn, 1) := by decide +kernel
theorem dX10_fitsOne_23 : decode cX10_fitsOne 23 = .ok (.aload_n 0, 1) := by decide +kernel
theorem dX10_fitsOne_24 : decode cX10_fitsOne 24 = .ok (.aload_n 0, 1) := by decide +kernel
theorem dX10_fitsOne_25 : decode cX10_fitsOne 25 = .ok (.getfield 16, 3) := by decide +kernel
theorem dX10_fitsOne_28 : decode cX10_fitsOne 28 = .ok (.iload_n 3, 1) := by decide +kernel
theorem dX10_fitsOne_29 : decode cX10_fitsOne 29 = .ok (.iaload, 1) := by decide +kernel
theorem dX10_fitsOne_30 : decode cX10_fitsOne 30 = .ok (.invokevirtual 120, 3) := by decide +kernel
theorem dX10_fitsOne_33 : decode cX10_fitsOne 33 = .ok (.invokestatic 124, 3) := by decide +kernel
theorem dX10_fitsOne_36 : decode cX10_fitsOne 36 = .ok (.iload 4, 2) := by decide +kernel
theorem dX10_fitsOne_38 : decode cX10_fitsOne 38 = .ok (.if_icmp .eq 5, 3) := by decide +kernel
theorem dX10_fitsOne_41 : decode cX10_fitsOne 41 = .ok (.iconst 0, 1) := by decide +kernel
theorem dX10_fitsOne_42 : decode cX10_fitsOne 42 = .ok (.ireturn, 1) := by decide +kernel
theorem dX10_fitsOne_43 : decode cX10_fitsOne 43 = .ok (.iload 4, 2) := by decide +kernel
theorem dX10_fitsOne_45 : decode cX10_fitsOne 45 = .ok (.iconst 3, 1) := by decide +kernel
theorem dX10_fitsOne_46 : decode cX10_fitsOne 46 = .ok (.if_icmp .eq 20, 3) := by decide +kernel
theorem dX10_fitsOne_49 : decode cX10_fitsOne 49 = .ok (.aload_n 0, 1) := by decide +kernel
theorem dX10_fitsOne_50 : decode cX10_fitsOne 50 = .ok (.iload 4, 2) := by decide +kernel
theorem dX10_fitsOne_52 : decode cX10_fitsOne 52 = .ok (.aload_n 0, 1) := by decide +kernel
theorem dX10_fitsOne_53 : decode cX10_fitsOne 53 = .ok (.iload_n 1, 1) := by decide +kernel
theorem dX10_fitsOne_54 : decode cX10_fitsOne 54 = .ok (.iload_n 2, 1) := by decide +kernel
theorem dX10_fitsOne_55 : decode cX10_fitsOne 55 = .ok (.iconst 1, 1) := by decide +kernel
theorem dX10_fitsOne_56 : decode cX10_fitsOne 56 = .ok (.invokevirtual 131, 3) := by decide +kernel
theorem dX10_fitsOne_59 : decode cX10_fitsOne 59 = .ok (.iload_n 3, 1) := by decide +kernel
theorem dX10_fitsOne_60 : decode cX10_fitsOne 60 = .ok (.invokevirtual 142, 3) := by decide +kernel
theorem dX10_fitsOne_63 : decode cX10_fitsOne 63 = .ok (.ifCond .eq 7, 3) := by decide +kernel
theorem dX10_fitsOne_66 : decode cX10_fitsOne 66 = .ok (.iconst 1, 1) := by decide +kernel
theorem dX10_fitsOne_67 : decode cX10_fitsOne 67 = .ok (.goto 4, 3) := by decide +kernel
theorem dX10_fitsOne_70 : decode cX10_fitsOne 70 = .ok (.iconst 0, 1) := by decide +kernel
theorem dX10_fitsOne_71 : decode cX10_fitsOne 71 = .ok (.ireturn, 1) := by decide +kernel
theorem dX10_fitsNow_0 : decode cX10_fitsNow 0 = .ok (.aload_n 0, 1) := by decide +kernel
theorem dX10_fitsNow_1 : decode cX10_fitsNow 1 = .ok (.iload_n 1, 1) := by decide +kernel
theorem dX10_fitsNow_2 : decode cX10_fitsNow 2 = .ok (.iconst 2, 1) := by decide +kernel
theorem dX10_fitsNow_3 : decode cX10_fitsNow 3 = .ok (.invokevirtual 127, 3) := by decide +kernel
theorem dX10_fitsNow_6 : decode cX10_fitsNow 6 = .ok (.istore_n 3, 1) := by decide +kernel
theorem dX10_fitsNow_7 : decode cX10_fitsNow 7 = .ok (.iload_n 2, 1) := by decide +kernel
theorem dX10_fitsNow_8 : decode cX10_fitsNow 8 = .ok (.iload_n 3, 1) := by decide +kernel
theorem dX10_fitsNow_9 : decode cX10_fitsNow 9 = .ok (.iadd, 1) := by decide +kernel
theorem dX10_fitsNow_10 : decode cX10_fitsNow 10 = .ok (.aload_n 0, 1) := by decide +kernel
theorem dX10_fitsNow_11 : decode cX10_fitsNow 11 = .ok (.getfield 117, 3) := by decide +kernel
theorem dX10_fitsNow_14 : decode cX10_fitsNow 14 = .ok (.if_icmp .le 5, 3) := by decide +kernel
theorem dX10_fitsNow_17 : decode cX10_fitsNow 17 = .ok (.iconst 0, 1) := by decide +kernel
theorem dX10_fitsNow_18 : decode cX10_fitsNow 18 = .ok (.ireturn, 1) := by decide +kernel
theorem dX10_fitsNow_19 : decode cX10_fitsNow 19 = .ok (.iconst 0, 1) := by decide +kernel
theorem dX10_fitsNow_20 : decode cX10_fitsNow 20 = .ok (.istore 4, 2) := by decide +kernel
theorem dX10_fitsNow_22 : decode cX10_fitsNow 22 = .ok (.iload 4, 2) := by decide +kernel
theorem dX10_fitsNow_24 : decode cX10_fitsNow 24 = .ok (.bipush 12, 2) := by decide +kernel
theorem dX10_fitsNow_26 : decode cX10_fitsNow 26 = .ok (.if_icmp .ge 17, 3) := by decide +kernel
theorem dX10_fitsNow_29 : decode cX10_fitsNow 29 = .ok (.aload_n 0, 1) := by decide +kernel
theorem dX10_fitsNow_30 : decode cX10_fitsNow 30 = .ok (.getfield 22, 3) := by decide +kernel
theorem dX10_fitsNow_33 : decode cX10_fitsNow 33 = .ok (.iload 4, 2) := by decide +kernel
theorem dX10_fitsNow_35 : decode cX10_fitsNow 35 = .ok (.iconst (-1), 1) := by decide +kernel
theorem dX10_fitsNow_36 : decode cX10_fitsNow 36 = .ok (.iastore, 1) := by decide +kernel
theorem dX10_fitsNow_37 : decode cX10_fitsNow 37 = .ok (.iinc 4 1, 3) := by decide +kernel
theorem dX10_fitsNow_40 : decode cX10_fitsNow 40 = .ok (.goto (-18), 3) := by decide +kernel
theorem dX10_fitsNow_43 : decode cX10_fitsNow 43 = .ok (.iconst 0, 1) := by decide +kernel
theorem dX10_fitsNow_44 : decode cX10_fitsNow 44 = .ok (.istore 4, 2) := by decide +kernel
theorem dX10_fitsNow_46 : decode cX10_fitsNow 46 = .ok (.iload 4, 2) := by decide +kernel
theorem dX10_fitsNow_48 : decode cX10_fitsNow 48 = .ok (.iload_n 3, 1) := by decide +kernel
theorem dX10_fitsNow_49 : decode cX10_fitsNow 49 = .ok (.if_icmp .ge 25, 3) := by decide +kernel
theorem dX10_fitsNow_52 : decode cX10_fitsNow 52 = .ok (.aload_n 0, 1) := by decide +kernel
theorem dX10_fitsNow_53 : decode cX10_fitsNow 53 = .ok (.iload_n 1, 1) := by decide +kernel
theorem dX10_fitsNow_54 : decode cX10_fitsNow 54 = .ok (.iload 4, 2) := by decide +kernel
theorem dX10_fitsNow_56 : decode cX10_fitsNow 56 = .ok (.iload_n 2, 1) := by decide +kernel
theorem dX10_fitsNow_57 : decode cX10_fitsNow 57 = .ok (.iload 4, 2) := by decide +kernel
theorem dX10_fitsNow_59 : decode cX10_fitsNow 59 = .ok (.iadd, 1) := by decide +kernel
theorem dX10_fitsNow_60 : decode cX10_fitsNow 60 = .ok (.invokevirtual 145, 3) := by decide +kernel
theorem dX10_fitsNow_63 : decode cX10_fitsNow 63 = .ok (.ifCond .ne 5, 3) := by decide +kernel
theorem dX10_fitsNow_66 : decode cX10_fitsNow 66 = .ok (.iconst 0, 1) := by decide +kernel
theorem dX10_fitsNow_67 : decode cX10_fitsNow 67 = .ok (.ireturn, 1) := by decide +kernel
theorem dX10_fitsNow_68 : decode cX10_fitsNow 68 = .ok (.iinc 4 1, 3) := by decide +kernel
theorem dX10_fitsNow_71 : decode cX10_fitsNow 71 = .ok (.goto (-25), 3) := by decide +kernel
theorem dX10_fitsNow_74 : decode cX10_fitsNow 74 = .ok (.iconst 1, 1) := by decide +kernel
theorem dX10_fitsNow_75 : decode cX10_fitsNow 75 = .ok (.ireturn, 1) := by decide +kernel
theorem dX10_write_0 : decode cX10_write 0 = .ok (.aload_n 0, 1) := by decide +kernel
theorem dX10_write_1 : decode cX10_write 1 = .ok (.getfield 25, 3) := by decide +kernel
theorem dX10_write_4 : decode cX10_write 4 = .ok (.aload_n 0, 1) := by decide +kernel
theorem dX10_write_5 : decode cX10_write 5 = .ok (.getfield 148, 3) := by decide +kernel
theorem dX10_write_8 : decode cX10_write 8 = .ok (.iload_n 1, 1) := by decide +kernel
theorem dX10_write_9 : decode cX10_write 9 = .ok (.iastore, 1) := by decide +kernel
theorem dX10_write_10 : decode cX10_write 10 = .ok (.aload_n 0, 1) := by decide +kernel
theorem dX10_write_11 : decode cX10_write 11 = .ok (.dup, 1) := by decide +kernel
theorem dX10_write_12 : decode cX10_write 12 = .ok (.getfield 148, 3) := by decide +kernel
theorem dX10_write_15 : decode cX10_write 15 = .ok (.iconst 1, 1) := by decide +kernel
theorem dX10_write_16 : decode cX10_write 16 = .ok (.iadd, 1) := by decide +kernel
theorem dX10_write_17 : decode cX10_write 17 = .ok (.putfield 148, 3) := by decide +kernel
theorem dX10_write_20 : decode cX10_write 20 = .ok (.return_, 1) := by decide +kernel
theorem dX10_writeNumber_0 : decode cX10_writeNumber 0 = .ok (.iconst 0, 1) := by decide +kernel
theorem dX10_writeNumber_1 : decode cX10_writeNumber 1 = .ok (.istore_n 3, 1) := by decide +kernel
theorem dX10_writeNumber_2 : decode cX10_writeNumber 2 = .ok (.iconst 0, 1) := by decide +kernel
theorem dX10_writeNumber_3 : decode cX10_writeNumber 3 = .ok (.istore 4, 2) := by decide +kernel
theorem dX10_writeNumber_5 : decode cX10_writeNumber 5 = .ok (.iload 4, 2) := by decide +kernel
theorem dX10_writeNumber_7 : decode cX10_writeNumber 7 = .ok (.aload_n 0, 1) := by decide +kernel
theorem dX10_writeNumber_8 : decode cX10_writeNumber 8 = .ok (.getfield 19, 3) := by decide +kernel
theorem dX10_writeNumber_11 : decode cX10_writeNumber 11 = .ok (.iload_n 1, 1) := by decide +kernel
theorem dX10_writeNumber_12 : decode cX10_writeNumber 12 = .ok (.iaload, 1) := by decide +kernel
theorem dX10_writeNumber_13 : decode cX10_writeNumber 13 = .ok (.if_icmp .ge 31, 3) := by decide +kernel
theorem dX10_writeNumber_16 : decode cX10_writeNumber 16 = .ok (.bipush 10, 2) := by decide +kernel
theorem dX10_writeNumber_18 : decode cX10_writeNumber 18 = .ok (.iload_n 3, 1) := by decide +kernel
theorem dX10_writeNumber_19 : decode cX10_writeNumber 19 = .ok (.imul, 1) := by decide +kernel
theorem dX10_writeNumber_20 : decode cX10_writeNumber 20 = .ok (.aload_n 0, 1) := by decide +kernel
theorem dX10_writeNumber_21 : decode cX10_writeNumber 21 = .ok (.aload_n 0, 1) := by decide +kernel
theorem dX10_writeNumber_22 : decode cX10_writeNumber 22 = .ok (.getfield 16, 3) := by decide +kernel
theorem dX10_writeNumber_25 : decode cX10_writeNumber 25 = .ok (.iload_n 1, 1) := by decide +kernel
theorem dX10_writeNumber_26 : decode cX10_writeNumber 26 = .ok (.iaload, 1) := by decide +kernel
theorem dX10_writeNumber_27 : decode cX10_writeNumber 27 = .ok (.iload 4, 2) := by decide +kernel
theorem dX10_writeNumber_29 : decode cX10_writeNumber 29 = .ok (.iadd, 1) := by decide +kernel
theorem dX10_writeNumber_30 : decode cX10_writeNumber 30 = .ok (.invokevirtual 120, 3) := by decide +kernel
theorem dX10_writeNumber_33 : decode cX10_writeNumber 33 = .ok (.iadd, 1) := by decide +kernel
theorem dX10_writeNumber_34 : decode cX10_writeNumber 34 = .ok (.bipush 48, 2) := by decide +kernel
theorem dX10_writeNumber_36 : decode cX10_writeNumber 36 = .ok (.isub, 1) := by decide +kernel
theorem dX10_writeNumber_37 : decode cX10_writeNumber 37 = .ok (.istore_n 3, 1) := by decide +kernel
theorem dX10_writeNumber_38 : decode cX10_writeNumber 38 = .ok (.iinc 4 1, 3) := by decide +kernel
theorem dX10_writeNumber_41 : decode cX10_writeNumber 41 = .ok (.goto (-36), 3) := by decide +kernel
theorem dX10_writeNumber_44 : decode cX10_writeNumber 44 = .ok (.iload_n 3, 1) := by decide +kernel
theorem dX10_writeNumber_45 : decode cX10_writeNumber 45 = .ok (.iload_n 2, 1) := by decide +kernel
theorem dX10_writeNumber_46 : decode cX10_writeNumber 46 = .ok (.iadd, 1) := by decide +kernel
theorem dX10_writeNumber_47 : decode cX10_writeNumber 47 = .ok (.ifCond .ge 7, 3) := by decide +kernel
theorem dX10_writeNumber_50 : decode cX10_writeNumber 50 = .ok (.iconst 0, 1) := by decide +kernel
theorem dX10_writeNumber_51 : decode cX10_writeNumber 51 = .ok (.goto 6, 3) := by decide +kernel
theorem dX10_writeNumber_54 : decode cX10_writeNumber 54 = .ok (.iload_n 3, 1) := by decide +kernel
theorem dX10_writeNumber_55 : decode cX10_writeNumber 55 = .ok (.iload_n 2, 1) := by decide +kernel
theorem dX10_writeNumber_56 : decode cX10_writeNumber 56 = .ok (.iadd, 1) := by decide +kernel
theorem dX10_writeNumber_57 : decode cX10_writeNumber 57 = .ok (.istore_n 3, 1) := by decide +kernel
theorem dX10_writeNumber_58 : decode cX10_writeNumber 58 = .ok (.iconst 1, 1) := by decide +kernel
theorem dX10_writeNumber_59 : decode cX10_writeNumber 59 = .ok (.istore 4, 2) := by decide +kernel
theorem dX10_writeNumber_61 : decode cX10_writeNumber 61 = .ok (.iload_n 3, 1) := by decide +kernel
theorem dX10_writeNumber_62 : decode cX10_writeNumber 62 = .ok (.iload 4, 2) := by decide +kernel
theorem dX10_writeNumber_64 : decode cX10_writeNumber 64 = .ok (.idiv, 1) := by decide +kernel
theorem dX10_writeNumber_65 : decode cX10_writeNumber 65 = .ok (.bipush 9, 2) := by decide +kernel
theorem dX10_writeNumber_67 : decode cX10_writeNumber 67 = .ok (.if_icmp .le 13, 3) := by decide +kernel
theorem dX10_writeNumber_70 : decode cX10_writeNumber 70 = .ok (.iload 4, 2) := by decide +kernel
theorem dX10_writeNumber_72 : decode cX10_writeNumber 72 = .ok (.bipush 10, 2) := by decide +kernel
theorem dX10_writeNumber_74 : decode cX10_writeNumber 74 = .ok (.imul, 1) := by decide +kernel
theorem dX10_writeNumber_75 : decode cX10_writeNumber 75 = .ok (.istore 4, 2) := by decide +kernel
theorem dX10_writeNumber_77 : decode cX10_writeNumber 77 = .ok (.goto (-16), 3) := by decide +kernel
theorem dX10_writeNumber_80 : decode cX10_writeNumber 80 = .ok (.iload 4, 2) := by decide +kernel
theorem dX10_writeNumber_82 : decode cX10_writeNumber 82 = .ok (.istore 5, 2) := by decide +kernel
theorem dX10_writeNumber_84 : decode cX10_writeNumber 84 = .ok (.iload 5, 2) := by decide +kernel
theorem dX10_writeNumber_86 : decode cX10_writeNumber 86 = .ok (.ifCond .le 27, 3) := by decide +kernel
theorem dX10_writeNumber_89 : decode cX10_writeNumber 89 = .ok (.aload_n 0, 1) := by decide +kernel
theorem dX10_writeNumber_90 : decode cX10_writeNumber 90 = .ok (.bipush 48, 2) := by decide +kernel
theorem dX10_writeNumber_92 : decode cX10_writeNumber 92 = .ok (.iload_n 3, 1) := by decide +kernel
theorem dX10_writeNumber_93 : decode cX10_writeNumber 93 = .ok (.iload 5, 2) := by decide +kernel
theorem dX10_writeNumber_95 : decode cX10_writeNumber 95 = .ok (.idiv, 1) := by decide +kernel
theorem dX10_writeNumber_96 : decode cX10_writeNumber 96 = .ok (.bipush 10, 2) := by decide +kernel
theorem dX10_writeNumber_98 : decode cX10_writeNumber 98 = .ok (.irem, 1) := by decide +kernel
theorem dX10_writeNumber_99 : decode cX10_writeNumber 99 = .ok (.iadd, 1) := by decide +kernel
theorem dX10_writeNumber_100 : decode cX10_writeNumber 100 = .ok (.invokevirtual 151, 3) := by decide +kernel
theorem dX10_writeNumber_103 : decode cX10_writeNumber 103 = .ok (.iload 5, 2) := by decide +kernel
theorem dX10_writeNumber_105 : decode cX10_writeNumber 105 = .ok (.bipush 10, 2) := by decide +kernel
theorem dX10_writeNumber_107 : decode cX10_writeNumber 107 = .ok (.idiv, 1) := by decide +kernel
theorem dX10_writeNumber_108 : decode cX10_writeNumber 108 = .ok (.istore 5, 2) := by decide +kernel
theorem dX10_writeNumber_110 : decode cX10_writeNumber 110 = .ok (.goto (-26), 3) := by decide +kernel
theorem dX10_writeNumber_113 : decode cX10_writeNumber 113 = .ok (.return_, 1) := by decide +kernel
theorem dX10_writePart_0 : decode cX10_writePart 0 = .ok (.aload_n 0, 1) := by decide +kernel
theorem dX10_writePart_1 : decode cX10_writePart 1 = .ok (.iload_n 1, 1) := by decide +kernel
theorem dX10_writePart_2 : decode cX10_writePart 2 = .ok (.iload_n 2, 1) := by decide +kernel
theorem dX10_writePart_3 : decode cX10_writePart 3 = .ok (.iconst 0, 1) := by decide +kernel
theorem dX10_writePart_4 : decode cX10_writePart 4 = .ok (.invokevirtual 155, 3) := by decide +kernel
theorem dX10_writePart_7 : decode cX10_writePart 7 = .ok (.istore_n 3, 1) := by decide +kernel
theorem dX10_writePart_8 : decode cX10_writePart 8 = .ok (.aload_n 0, 1) := by decide +kernel
theorem dX10_writePart_9 : decode cX10_writePart 9 = .ok (.iload_n 1, 1) := by decide +kernel
theorem dX10_writePart_10 : decode cX10_writePart 10 = .ok (.iload_n 2, 1) := by decide +kernel
theorem dX10_writePart_11 : decode cX10_writePart 11 = .ok (.iconst 1, 1) := by decide +kernel
theorem dX10_writePart_12 : decode cX10_writePart 12 = .ok (.invokevirtual 155, 3) := by decide +kernel
theorem dX10_writePart_15 : decode cX10_writePart 15 = .ok (.istore 4, 2) := by decide +kernel
theorem dX10_writePart_17 : decode cX10_writePart 17 = .ok (.iload_n 3, 1) := by decide +kernel
theorem dX10_writePart_18 : decode cX10_writePart 18 = .ok (.iconst 4, 1) := by decide +kernel
theorem dX10_writePart_19 : decode cX10_writePart 19 = .ok (.if_icmp .ne 43, 3) := by decide +kernel
theorem dX10_writePart_22 : decode cX10_writePart 22 = .ok (.iconst 0, 1) := by decide +kernel
theorem dX10_writePart_23 : decode cX10_writePart 23 = .ok (.istore 5, 2) := by decide +kernel
theorem dX10_writePart_25 : decode cX10_writePart 25 = .ok (.iload 5, 2) := by decide +kernel
theorem dX10_writePart_27 : decode cX10_writePart 27 = .ok (.aload_n 0, 1) := by decide +kernel
theorem dX10_writePart_28 : decode cX10_writePart 28 = .ok (.iload_n 1, 1) := by decide +kernel
theorem dX10_writePart_29 : decode cX10_writePart 29 = .ok (.iload_n 2, 1) := by decide +kernel
theorem dX10_writePart_30 : decode cX10_writePart 30 = .ok (.iconst 2, 1) := by decide +kernel
theorem dX10_writePart_31 : decode cX10_writePart 31 = .ok (.invokevirtual 155, 3) := by decide +kernel
theorem dX10_writePart_34 : decode cX10_writePart 34 = .ok (.if_icmp .ge 27, 3) := by decide +kernel
theorem dX10_writePart_37 : decode cX10_writePart 37 = .ok (.aload_n 0, 1) := by decide +kernel
theorem dX10_writePart_38 : decode cX10_writePart 38 = .ok (.aload_n 0, 1) := by decide +kernel
theorem dX10_writePart_39 : decode cX10_writePart 39 = .ok (.getfield 7, 3) := by decide +kernel
theorem dX10_writePart_42 : decode cX10_writePart 42 = .ok (.sipush 754, 3) := by decide +kernel
theorem dX10_writePart_45 : decode cX10_writePart 45 = .ok (.iload 4, 2) := by decide +kernel
theorem dX10_writePart_47 : decode cX10_writePart 47 = .ok (.iadd, 1) := by decide +kernel
theorem dX10_writePart_48 : decode cX10_writePart 48 = .ok (.iload 5, 2) := by decide +kernel
theorem dX10_writePart_50 : decode cX10_writePart 50 = .ok (.iadd, 1) := by decide +kernel
theorem dX10_writePart_51 : decode cX10_writePart 51 = .ok (.iaload, 1) := by decide +kernel
theorem dX10_writePart_52 : decode cX10_writePart 52 = .ok (.invokevirtual 151, 3) := by decide +kernel
theorem dX10_writePart_55 : decode cX10_writePart 55 = .ok (.iinc 5 1, 3) := by decide +kernel
theorem dX10_writePart_58 : decode cX10_writePart 58 = .ok (.goto (-33), 3) := by decide +kernel
theorem dX10_writePart_61 : decode cX10_writePart 61 = .ok (.return_, 1) := by decide +kernel
theorem dX10_writePart_62 : decode cX10_writePart 62 = .ok (.aload_n 0, 1) := by decide +kernel
theorem dX10_writePart_63 : decode cX10_writePart 63 = .ok (.getfield 22, 3) := by decide +kernel
theorem dX10_writePart_66 : decode cX10_writePart 66 = .ok (.iconst 4, 1) := by decide +kernel
theorem dX10_writePart_67 : decode cX10_writePart 67 = .ok (.iload_n 3, 1) := by decide +kernel
theorem dX10_writePart_68 : decode cX10_writePart 68 = .ok (.bipush 7, 2) := by decide +kernel
theorem dX10_writePart_70 : decode cX10_writePart 70 = .ok (.if_icmp .ne 7, 3) := by decide +kernel
theorem dX10_writePart_73 : decode cX10_writePart 73 = .ok (.iconst 0, 1) := by decide +kernel
theorem dX10_writePart_74 : decode cX10_writePart 74 = .ok (.goto 13, 3) := by decide +kernel
theorem dX10_writePart_77 : decode cX10_writePart 77 = .ok (.iload_n 3, 1) := by decide +kernel
theorem dX10_writePart_78 : decode cX10_writePart 78 = .ok (.iconst 4, 1) := by decide +kernel
theorem dX10_writePart_79 : decode cX10_writePart 79 = .ok (.if_icmp .le 7, 3) := by decide +kernel
theorem dX10_writePart_82 : decode cX10_writePart 82 = .ok (.iconst 1, 1) := by decide +kernel
theorem dX10_writePart_83 : decode cX10_writePart 83 = .ok (.goto 4, 3) := by decide +kernel
theorem dX10_writePart_86 : decode cX10_writePart 86 = .ok (.iload_n 3, 1) := by decide +kernel
theorem dX10_writePart_87 : decode cX10_writePart 87 = .ok (.imul, 1) := by decide +kernel
theorem dX10_writePart_88 : decode cX10_writePart 88 = .ok (.iload 4, 2) := by decide +kernel
theorem dX10_writePart_90 : decode cX10_writePart 90 = .ok (.iadd, 1) := by decide +kernel
theorem dX10_writePart_91 : decode cX10_writePart 91 = .ok (.iaload, 1) := by decide +kernel
theorem dX10_writePart_92 : decode cX10_writePart 92 = .ok (.istore 5, 2) := by decide +kernel
theorem dX10_writePart_94 : decode cX10_writePart 94 = .ok (.aload_n 0, 1) := by decide +kernel
theorem dX10_writePart_95 : decode cX10_writePart 95 = .ok (.getfield 19, 3) := by decide +kernel
theorem dX10_writePart_98 : decode cX10_writePart 98 = .ok (.iload 5, 2) := by decide +kernel
theorem dX10_writePart_100 : decode cX10_writePart 100 = .ok (.iaload, 1) := by decide +kernel
theorem dX10_writePart_101 : decode cX10_writePart 101 = .ok (.istore 6, 2) := by decide +kernel
theorem dX10_writePart_103 : decode cX10_writePart 103 = .ok (.iload_n 3, 1) := by decide +kernel
theorem dX10_writePart_104 : decode cX10_writePart 104 = .ok (.iconst 5, 1) := by decide +kernel
theorem dX10_writePart_105 : decode cX10_writePart 105 = .ok (.if_icmp .eq 9, 3) := by decide +kernel
theorem dX10_writePart_108 : decode cX10_writePart 108 = .ok (.iload_n 3, 1) := by decide +kernel
theorem dX10_writePart_109 : decode cX10_writePart 109 = .ok (.bipush 6, 2) := by decide +kernel
theorem dX10_writePart_111 : decode cX10_writePart 111 = .ok (.if_icmp .ne 27, 3) := by decide +kernel
theorem dX10_writePart_114 : decode cX10_writePart 114 = .ok (.iload 6, 2) := by decide +kernel
theorem dX10_writePart_116 : decode cX10_writePart 116 = .ok (.bipush 9, 2) := by decide +kernel
theorem dX10_writePart_118 : decode cX10_writePart 118 = .ok (.if_icmp .gt 20, 3) := by decide +kernel
theorem dX10_writePart_121 : decode cX10_writePart 121 = .ok (.aload_n 0, 1) := by decide +kernel
theorem dX10_writePart_122 : decode cX10_writePart 122 = .ok (.iload 5, 2) := by decide +kernel
theorem dX10_writePart_124 : decode cX10_writePart 124 = .ok (.iload_n 3, 1) := by decide +kernel
theorem dX10_writePart_125 : decode cX10_writePart 125 = .ok (.iconst 5, 1) := by decide +kernel
theorem dX10_writePart_126 : decode cX10_writePart 126 = .ok (.if_icmp .ne 7, 3) := by decide +kernel
theorem dX10_writePart_129 : decode cX10_writePart 129 = .ok (.iconst 1, 1) := by decide +kernel
theorem dX10_writePart_130 : decode cX10_writePart 130 = .ok (.goto 4, 3) := by decide +kernel
theorem dX10_writePart_133 : decode cX10_writePart 133 = .ok (.iconst (-1), 1) := by decide +kernel
theorem dX10_writePart_134 : decode cX10_writePart 134 = .ok (.invokevirtual 158, 3) := by decide +kernel
theorem dX10_writePart_137 : decode cX10_writePart 137 = .ok (.return_, 1) := by decide +kernel
theorem dX10_writePart_138 : decode cX10_writePart 138 = .ok (.iconst 0, 1) := by decide +kernel
theorem dX10_writePart_139 : decode cX10_writePart 139 = .ok (.istore 7, 2) := by decide +kernel
theorem dX10_writePart_141 : decode cX10_writePart 141 = .ok (.iload 7, 2) := by decide +kernel
theorem dX10_writePart_143 : decode cX10_writePart 143 = .ok (.iload 6, 2) := by decide +kernel
theorem dX10_writePart_145 : decode cX10_writePart 145 = .ok (.if_icmp .ge 43, 3) := by decide +kernel
theorem dX10_writePart_148 : decode cX10_writePart 148 = .ok (.aload_n 0, 1) := by decide +kernel
theorem dX10_writePart_149 : decode cX10_writePart 149 = .ok (.aload_n 0, 1) := by decide +kernel
theorem dX10_writePart_150 : decode cX10_writePart 150 = .ok (.aload_n 0, 1) := by decide +kernel
theorem dX10_writePart_151 : decode cX10_writePart 151 = .ok (.getfield 16, 3) := by decide +kernel
theorem dX10_writePart_154 : decode cX10_writePart 154 = .ok (.iload 5, 2) := by decide +kernel
theorem dX10_writePart_156 : decode cX10_writePart 156 = .ok (.iaload, 1) := by decide +kernel
theorem dX10_writePart_157 : decode cX10_writePart 157 = .ok (.iload_n 3, 1) := by decide +kernel
theorem dX10_writePart_158 : decode cX10_writePart 158 = .ok (.bipush 7, 2) := by decide +kernel
theorem dX10_writePart_160 : decode cX10_writePart 160 = .ok (.if_icmp .ne 13, 3) := by decide +kernel
theorem dX10_writePart_163 : decode cX10_writePart 163 = .ok (.iload 6, 2) := by decide +kernel
theorem dX10_writePart_165 : decode cX10_writePart 165 = .ok (.iconst 1, 1) := by decide +kernel
theorem dX10_writePart_166 : decode cX10_writePart 166 = .ok (.isub, 1) := by decide +kernel
theorem dX10_writePart_167 : decode cX10_writePart 167 = .ok (.iload 7, 2) := by decide +kernel
theorem dX10_writePart_169 : decode cX10_writePart 169 = .ok (.isub, 1) := by decide +kernel
theorem dX10_writePart_170 : decode cX10_writePart 170 = .ok (.goto 5, 3) := by decide +kernel
theorem dX10_writePart_173 : decode cX10_writePart 173 = .ok (.iload 7, 2) := by decide +kernel
theorem dX10_writePart_175 : decode cX10_writePart 175 = .ok (.iadd, 1) := by decide +kernel
theorem dX10_writePart_176 : decode cX10_writePart 176 = .ok (.invokevirtual 120, 3) := by decide +kernel
theorem dX10_writePart_179 : decode cX10_writePart 179 = .ok (.invokevirtual 151, 3) := by decide +kernel
theorem dX10_writePart_182 : decode cX10_writePart 182 = .ok (.iinc 7 1, 3) := by decide +kernel
theorem dX10_writePart_185 : decode cX10_writePart 185 = .ok (.goto (-44), 3) := by decide +kernel
theorem dX10_writePart_188 : decode cX10_writePart 188 = .ok (.return_, 1) := by decide +kernel
theorem dX10_layOut_0 : decode cX10_layOut 0 = .ok (.aload_n 0, 1) := by decide +kernel
theorem dX10_layOut_1 : decode cX10_layOut 1 = .ok (.iload_n 1, 1) := by decide +kernel
theorem dX10_layOut_2 : decode cX10_layOut 2 = .ok (.iload_n 2, 1) := by decide +kernel
theorem dX10_layOut_3 : decode cX10_layOut 3 = .ok (.invokevirtual 162, 3) := by decide +kernel
theorem dX10_layOut_6 : decode cX10_layOut 6 = .ok (.istore_n 3, 1) := by decide +kernel
theorem dX10_layOut_7 : decode cX10_layOut 7 = .ok (.aload_n 0, 1) := by decide +kernel
theorem dX10_layOut_8 : decode cX10_layOut 8 = .ok (.iconst 0, 1) := by decide +kernel
theorem dX10_layOut_9 : decode cX10_layOut 9 = .ok (.putfield 148, 3) := by decide +kernel
theorem dX10_layOut_12 : decode cX10_layOut 12 = .ok (.iconst 0, 1) := by decide +kernel
theorem dX10_layOut_13 : decode cX10_layOut 13 = .ok (.istore 4, 2) := by decide +kernel
theorem dX10_layOut_15 : decode cX10_layOut 15 = .ok (.iload 4, 2) := by decide +kernel
theorem dX10_layOut_17 : decode cX10_layOut 17 = .ok (.aload_n 0, 1) := by decide +kernel
theorem dX10_layOut_18 : decode cX10_layOut 18 = .ok (.iload_n 1, 1) := by decide +kernel
theorem dX10_layOut_19 : decode cX10_layOut 19 = .ok (.iconst 3, 1) := by decide +kernel
theorem dX10_layOut_20 : decode cX10_layOut 20 = .ok (.invokevirtual 127, 3) := by decide +kernel
