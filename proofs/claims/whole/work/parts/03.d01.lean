theorem dX1_pickedValue_14 : decode cX1_pickedValue 14 = .ok (.getfield 35, 3) := by decide +kernel
theorem dX1_pickedValue_17 : decode cX1_pickedValue 17 = .ok (.aload_n 0, 1) := by decide +kernel
theorem dX1_pickedValue_18 : decode cX1_pickedValue 18 = .ok (.getfield 47, 3) := by decide +kernel
theorem dX1_pickedValue_21 : decode cX1_pickedValue 21 = .ok (.iload_n 2, 1) := by decide +kernel
theorem dX1_pickedValue_22 : decode cX1_pickedValue 22 = .ok (.iaload, 1) := by decide +kernel
theorem dX1_pickedValue_23 : decode cX1_pickedValue 23 = .ok (.iaload, 1) := by decide +kernel
theorem dX1_pickedValue_24 : decode cX1_pickedValue 24 = .ok (.iadd, 1) := by decide +kernel
theorem dX1_pickedValue_25 : decode cX1_pickedValue 25 = .ok (.istore_n 1, 1) := by decide +kernel
theorem dX1_pickedValue_26 : decode cX1_pickedValue 26 = .ok (.iinc 2 1, 3) := by decide +kernel
theorem dX1_pickedValue_29 : decode cX1_pickedValue 29 = .ok (.goto (-25), 3) := by decide +kernel
theorem dX1_pickedValue_32 : decode cX1_pickedValue 32 = .ok (.iload_n 1, 1) := by decide +kernel
theorem dX1_pickedValue_33 : decode cX1_pickedValue 33 = .ok (.ireturn, 1) := by decide +kernel
theorem dX1_pickedBytes_0 : decode cX1_pickedBytes 0 = .ok (.iconst 0, 1) := by decide +kernel
theorem dX1_pickedBytes_1 : decode cX1_pickedBytes 1 = .ok (.istore_n 1, 1) := by decide +kernel
theorem dX1_pickedBytes_2 : decode cX1_pickedBytes 2 = .ok (.iconst 0, 1) := by decide +kernel
theorem dX1_pickedBytes_3 : decode cX1_pickedBytes 3 = .ok (.istore_n 2, 1) := by decide +kernel
theorem dX1_pickedBytes_4 : decode cX1_pickedBytes 4 = .ok (.iload_n 2, 1) := by decide +kernel
theorem dX1_pickedBytes_5 : decode cX1_pickedBytes 5 = .ok (.aload_n 0, 1) := by decide +kernel
theorem dX1_pickedBytes_6 : decode cX1_pickedBytes 6 = .ok (.getfield 99, 3) := by decide +kernel
theorem dX1_pickedBytes_9 : decode cX1_pickedBytes 9 = .ok (.if_icmp .ge 33, 3) := by decide +kernel
theorem dX1_pickedBytes_12 : decode cX1_pickedBytes 12 = .ok (.iload_n 1, 1) := by decide +kernel
theorem dX1_pickedBytes_13 : decode cX1_pickedBytes 13 = .ok (.aload_n 0, 1) := by decide +kernel
theorem dX1_pickedBytes_14 : decode cX1_pickedBytes 14 = .ok (.aload_n 0, 1) := by decide +kernel
theorem dX1_pickedBytes_15 : decode cX1_pickedBytes 15 = .ok (.getfield 47, 3) := by decide +kernel
theorem dX1_pickedBytes_18 : decode cX1_pickedBytes 18 = .ok (.iload_n 2, 1) := by decide +kernel
theorem dX1_pickedBytes_19 : decode cX1_pickedBytes 19 = .ok (.iaload, 1) := by decide +kernel
theorem dX1_pickedBytes_20 : decode cX1_pickedBytes 20 = .ok (.invokevirtual 228, 3) := by decide +kernel
theorem dX1_pickedBytes_23 : decode cX1_pickedBytes 23 = .ok (.aload_n 0, 1) := by decide +kernel
theorem dX1_pickedBytes_24 : decode cX1_pickedBytes 24 = .ok (.aload_n 0, 1) := by decide +kernel
theorem dX1_pickedBytes_25 : decode cX1_pickedBytes 25 = .ok (.getfield 47, 3) := by decide +kernel
theorem dX1_pickedBytes_28 : decode cX1_pickedBytes 28 = .ok (.iload_n 2, 1) := by decide +kernel
theorem dX1_pickedBytes_29 : decode cX1_pickedBytes 29 = .ok (.iaload, 1) := by decide +kernel
theorem dX1_pickedBytes_30 : decode cX1_pickedBytes 30 = .ok (.invokevirtual 218, 3) := by decide +kernel
theorem dX1_pickedBytes_33 : decode cX1_pickedBytes 33 = .ok (.isub, 1) := by decide +kernel
theorem dX1_pickedBytes_34 : decode cX1_pickedBytes 34 = .ok (.iadd, 1) := by decide +kernel
theorem dX1_pickedBytes_35 : decode cX1_pickedBytes 35 = .ok (.istore_n 1, 1) := by decide +kernel
theorem dX1_pickedBytes_36 : decode cX1_pickedBytes 36 = .ok (.iinc 2 1, 3) := by decide +kernel
theorem dX1_pickedBytes_39 : decode cX1_pickedBytes 39 = .ok (.goto (-35), 3) := by decide +kernel
theorem dX1_pickedBytes_42 : decode cX1_pickedBytes 42 = .ok (.iload_n 1, 1) := by decide +kernel
theorem dX1_pickedBytes_43 : decode cX1_pickedBytes 43 = .ok (.ireturn, 1) := by decide +kernel
theorem dX1_loudValue_0 : decode cX1_loudValue 0 = .ok (.iconst 0, 1) := by decide +kernel
theorem dX1_loudValue_1 : decode cX1_loudValue 1 = .ok (.istore_n 1, 1) := by decide +kernel
theorem dX1_loudValue_2 : decode cX1_loudValue 2 = .ok (.iconst 0, 1) := by decide +kernel
theorem dX1_loudValue_3 : decode cX1_loudValue 3 = .ok (.istore_n 2, 1) := by decide +kernel
theorem dX1_loudValue_4 : decode cX1_loudValue 4 = .ok (.iload_n 2, 1) := by decide +kernel
theorem dX1_loudValue_5 : decode cX1_loudValue 5 = .ok (.aload_n 0, 1) := by decide +kernel
theorem dX1_loudValue_6 : decode cX1_loudValue 6 = .ok (.getfield 66, 3) := by decide +kernel
theorem dX1_loudValue_9 : decode cX1_loudValue 9 = .ok (.if_icmp .ge 27, 3) := by decide +kernel
theorem dX1_loudValue_12 : decode cX1_loudValue 12 = .ok (.aload_n 0, 1) := by decide +kernel
theorem dX1_loudValue_13 : decode cX1_loudValue 13 = .ok (.iload_n 2, 1) := by decide +kernel
theorem dX1_loudValue_14 : decode cX1_loudValue 14 = .ok (.iconst 1, 1) := by decide +kernel
theorem dX1_loudValue_15 : decode cX1_loudValue 15 = .ok (.invokevirtual 234, 3) := by decide +kernel
theorem dX1_loudValue_18 : decode cX1_loudValue 18 = .ok (.ifCond .ne 12, 3) := by decide +kernel
theorem dX1_loudValue_21 : decode cX1_loudValue 21 = .ok (.iload_n 1, 1) := by decide +kernel
theorem dX1_loudValue_22 : decode cX1_loudValue 22 = .ok (.aload_n 0, 1) := by decide +kernel
theorem dX1_loudValue_23 : decode cX1_loudValue 23 = .ok (.getfield 35, 3) := by decide +kernel
theorem dX1_loudValue_26 : decode cX1_loudValue 26 = .ok (.iload_n 2, 1) := by decide +kernel
theorem dX1_loudValue_27 : decode cX1_loudValue 27 = .ok (.iaload, 1) := by decide +kernel
theorem dX1_loudValue_28 : decode cX1_loudValue 28 = .ok (.iadd, 1) := by decide +kernel
theorem dX1_loudValue_29 : decode cX1_loudValue 29 = .ok (.istore_n 1, 1) := by decide +kernel
theorem dX1_loudValue_30 : decode cX1_loudValue 30 = .ok (.iinc 2 1, 3) := by decide +kernel
theorem dX1_loudValue_33 : decode cX1_loudValue 33 = .ok (.goto (-29), 3) := by decide +kernel
theorem dX1_loudValue_36 : decode cX1_loudValue 36 = .ok (.iload_n 1, 1) := by decide +kernel
theorem dX1_loudValue_37 : decode cX1_loudValue 37 = .ok (.ireturn, 1) := by decide +kernel
theorem dX1_countLike_0 : decode cX1_countLike 0 = .ok (.iconst 0, 1) := by decide +kernel
theorem dX1_countLike_1 : decode cX1_countLike 1 = .ok (.istore_n 2, 1) := by decide +kernel
theorem dX1_countLike_2 : decode cX1_countLike 2 = .ok (.iconst 0, 1) := by decide +kernel
theorem dX1_countLike_3 : decode cX1_countLike 3 = .ok (.istore_n 3, 1) := by decide +kernel
theorem dX1_countLike_4 : decode cX1_countLike 4 = .ok (.iload_n 3, 1) := by decide +kernel
theorem dX1_countLike_5 : decode cX1_countLike 5 = .ok (.aload_n 0, 1) := by decide +kernel
theorem dX1_countLike_6 : decode cX1_countLike 6 = .ok (.getfield 12, 3) := by decide +kernel
theorem dX1_countLike_9 : decode cX1_countLike 9 = .ok (.getfield 70, 3) := by decide +kernel
theorem dX1_countLike_12 : decode cX1_countLike 12 = .ok (.if_icmp .ge 47, 3) := by decide +kernel
theorem dX1_countLike_15 : decode cX1_countLike 15 = .ok (.aload_n 0, 1) := by decide +kernel
theorem dX1_countLike_16 : decode cX1_countLike 16 = .ok (.iload_n 3, 1) := by decide +kernel
theorem dX1_countLike_17 : decode cX1_countLike 17 = .ok (.aload_n 0, 1) := by decide +kernel
theorem dX1_countLike_18 : decode cX1_countLike 18 = .ok (.getfield 56, 3) := by decide +kernel
theorem dX1_countLike_21 : decode cX1_countLike 21 = .ok (.getfield 131, 3) := by decide +kernel
theorem dX1_countLike_24 : decode cX1_countLike 24 = .ok (.aload_n 0, 1) := by decide +kernel
theorem dX1_countLike_25 : decode cX1_countLike 25 = .ok (.getfield 12, 3) := by decide +kernel
theorem dX1_countLike_28 : decode cX1_countLike 28 = .ok (.getfield 134, 3) := by decide +kernel
theorem dX1_countLike_31 : decode cX1_countLike 31 = .ok (.iload_n 1, 1) := by decide +kernel
theorem dX1_countLike_32 : decode cX1_countLike 32 = .ok (.iaload, 1) := by decide +kernel
theorem dX1_countLike_33 : decode cX1_countLike 33 = .ok (.aload_n 0, 1) := by decide +kernel
theorem dX1_countLike_34 : decode cX1_countLike 34 = .ok (.getfield 12, 3) := by decide +kernel
theorem dX1_countLike_37 : decode cX1_countLike 37 = .ok (.getfield 134, 3) := by decide +kernel
theorem dX1_countLike_40 : decode cX1_countLike 40 = .ok (.iload_n 1, 1) := by decide +kernel
theorem dX1_countLike_41 : decode cX1_countLike 41 = .ok (.iconst 1, 1) := by decide +kernel
theorem dX1_countLike_42 : decode cX1_countLike 42 = .ok (.iadd, 1) := by decide +kernel
theorem dX1_countLike_43 : decode cX1_countLike 43 = .ok (.iaload, 1) := by decide +kernel
theorem dX1_countLike_44 : decode cX1_countLike 44 = .ok (.invokevirtual 124, 3) := by decide +kernel
theorem dX1_countLike_47 : decode cX1_countLike 47 = .ok (.ifCond .eq 6, 3) := by decide +kernel
theorem dX1_countLike_50 : decode cX1_countLike 50 = .ok (.iinc 2 1, 3) := by decide +kernel
theorem dX1_countLike_53 : decode cX1_countLike 53 = .ok (.iinc 3 1, 3) := by decide +kernel
theorem dX1_countLike_56 : decode cX1_countLike 56 = .ok (.goto (-52), 3) := by decide +kernel
theorem dX1_countLike_59 : decode cX1_countLike 59 = .ok (.iload_n 2, 1) := by decide +kernel
theorem dX1_countLike_60 : decode cX1_countLike 60 = .ok (.ireturn, 1) := by decide +kernel
theorem dX1_commonWord_0 : decode cX1_commonWord 0 = .ok (.iconst (-1), 1) := by decide +kernel
theorem dX1_commonWord_1 : decode cX1_commonWord 1 = .ok (.istore_n 1, 1) := by decide +kernel
theorem dX1_commonWord_2 : decode cX1_commonWord 2 = .ok (.iconst 0, 1) := by decide +kernel
theorem dX1_commonWord_3 : decode cX1_commonWord 3 = .ok (.istore_n 2, 1) := by decide +kernel
theorem dX1_commonWord_4 : decode cX1_commonWord 4 = .ok (.iconst 0, 1) := by decide +kernel
theorem dX1_commonWord_5 : decode cX1_commonWord 5 = .ok (.istore_n 3, 1) := by decide +kernel
theorem dX1_commonWord_6 : decode cX1_commonWord 6 = .ok (.iload_n 3, 1) := by decide +kernel
theorem dX1_commonWord_7 : decode cX1_commonWord 7 = .ok (.aload_n 0, 1) := by decide +kernel
theorem dX1_commonWord_8 : decode cX1_commonWord 8 = .ok (.getfield 12, 3) := by decide +kernel
theorem dX1_commonWord_11 : decode cX1_commonWord 11 = .ok (.getfield 70, 3) := by decide +kernel
theorem dX1_commonWord_14 : decode cX1_commonWord 14 = .ok (.if_icmp .ge 43, 3) := by decide +kernel
theorem dX1_commonWord_17 : decode cX1_commonWord 17 = .ok (.aload_n 0, 1) := by decide +kernel
theorem dX1_commonWord_18 : decode cX1_commonWord 18 = .ok (.getfield 12, 3) := by decide +kernel
theorem dX1_commonWord_21 : decode cX1_commonWord 21 = .ok (.getfield 128, 3) := by decide +kernel
theorem dX1_commonWord_24 : decode cX1_commonWord 24 = .ok (.iload_n 3, 1) := by decide +kernel
theorem dX1_commonWord_25 : decode cX1_commonWord 25 = .ok (.iaload, 1) := by decide +kernel
theorem dX1_commonWord_26 : decode cX1_commonWord 26 = .ok (.ifCond .ne 11, 3) := by decide +kernel
theorem dX1_commonWord_29 : decode cX1_commonWord 29 = .ok (.aload_n 0, 1) := by decide +kernel
theorem dX1_commonWord_30 : decode cX1_commonWord 30 = .ok (.iload_n 3, 1) := by decide +kernel
theorem dX1_commonWord_31 : decode cX1_commonWord 31 = .ok (.invokevirtual 237, 3) := by decide +kernel
theorem dX1_commonWord_34 : decode cX1_commonWord 34 = .ok (.goto 4, 3) := by decide +kernel
theorem dX1_commonWord_37 : decode cX1_commonWord 37 = .ok (.iconst 0, 1) := by decide +kernel
theorem dX1_commonWord_38 : decode cX1_commonWord 38 = .ok (.istore 4, 2) := by decide +kernel
theorem dX1_commonWord_40 : decode cX1_commonWord 40 = .ok (.iload 4, 2) := by decide +kernel
theorem dX1_commonWord_42 : decode cX1_commonWord 42 = .ok (.iload_n 2, 1) := by decide +kernel
theorem dX1_commonWord_43 : decode cX1_commonWord 43 = .ok (.if_icmp .le 8, 3) := by decide +kernel
theorem dX1_commonWord_46 : decode cX1_commonWord 46 = .ok (.iload 4, 2) := by decide +kernel
theorem dX1_commonWord_48 : decode cX1_commonWord 48 = .ok (.istore_n 2, 1) := by decide +kernel
theorem dX1_commonWord_49 : decode cX1_commonWord 49 = .ok (.iload_n 3, 1) := by decide +kernel
theorem dX1_commonWord_50 : decode cX1_commonWord 50 = .ok (.istore_n 1, 1) := by decide +kernel
theorem dX1_commonWord_51 : decode cX1_commonWord 51 = .ok (.iinc 3 1, 3) := by decide +kernel
theorem dX1_commonWord_54 : decode cX1_commonWord 54 = .ok (.goto (-48), 3) := by decide +kernel
theorem dX1_commonWord_57 : decode cX1_commonWord 57 = .ok (.iload_n 1, 1) := by decide +kernel
theorem dX1_commonWord_58 : decode cX1_commonWord 58 = .ok (.ireturn, 1) := by decide +kernel
theorem dX2_init_0 : decode cX2_init 0 = .ok (.aload_n 0, 1) := by decide +kernel
theorem dX2_init_1 : decode cX2_init 1 = .ok (.invokespecial 3, 3) := by decide +kernel
theorem dX2_init_4 : decode cX2_init 4 = .ok (.aload_n 0, 1) := by decide +kernel
theorem dX2_init_5 : decode cX2_init 5 = .ok (.bipush 20, 2) := by decide +kernel
theorem dX2_init_7 : decode cX2_init 7 = .ok (.anewarray 9, 3) := by decide +kernel
theorem dX2_init_10 : decode cX2_init 10 = .ok (.putfield 11, 3) := by decide +kernel
theorem dX2_init_13 : decode cX2_init 13 = .ok (.iconst 0, 1) := by decide +kernel
theorem dX2_init_14 : decode cX2_init 14 = .ok (.istore_n 2, 1) := by decide +kernel
theorem dX2_init_15 : decode cX2_init 15 = .ok (.iload_n 2, 1) := by decide +kernel
theorem dX2_init_16 : decode cX2_init 16 = .ok (.bipush 20, 2) := by decide +kernel
theorem dX2_init_18 : decode cX2_init 18 = .ok (.if_icmp .ge 23, 3) := by decide +kernel
theorem dX2_init_21 : decode cX2_init 21 = .ok (.aload_n 0, 1) := by decide +kernel
theorem dX2_init_22 : decode cX2_init 22 = .ok (.getfield 11, 3) := by decide +kernel
theorem dX2_init_25 : decode cX2_init 25 = .ok (.iload_n 2, 1) := by decide +kernel
theorem dX2_init_26 : decode cX2_init 26 = .ok (.new 9, 3) := by decide +kernel
theorem dX2_init_29 : decode cX2_init 29 = .ok (.dup, 1) := by decide +kernel
theorem dX2_init_30 : decode cX2_init 30 = .ok (.aload_n 1, 1) := by decide +kernel
theorem dX2_init_31 : decode cX2_init 31 = .ok (.invokespecial 17, 3) := by decide +kernel
theorem dX2_init_34 : decode cX2_init 34 = .ok (.aastore, 1) := by decide +kernel
theorem dX2_init_35 : decode cX2_init 35 = .ok (.iinc 2 1, 3) := by decide +kernel
theorem dX2_init_38 : decode cX2_init 38 = .ok (.goto (-23), 3) := by decide +kernel
theorem dX2_init_41 : decode cX2_init 41 = .ok (.return_, 1) := by decide +kernel
theorem dX2_keep_0 : decode cX2_keep 0 = .ok (.aload_n 0, 1) := by decide +kernel
theorem dX2_keep_1 : decode cX2_keep 1 = .ok (.getfield 20, 3) := by decide +kernel
theorem dX2_keep_4 : decode cX2_keep 4 = .ok (.bipush 20, 2) := by decide +kernel
theorem dX2_keep_6 : decode cX2_keep 6 = .ok (.if_icmp .lt 22, 3) := by decide +kernel
theorem dX2_keep_9 : decode cX2_keep 9 = .ok (.aload_n 0, 1) := by decide +kernel
theorem dX2_keep_10 : decode cX2_keep 10 = .ok (.aload_n 0, 1) := by decide +kernel
theorem dX2_keep_11 : decode cX2_keep 11 = .ok (.getfield 24, 3) := by decide +kernel
theorem dX2_keep_14 : decode cX2_keep 14 = .ok (.iconst 1, 1) := by decide +kernel
theorem dX2_keep_15 : decode cX2_keep 15 = .ok (.iadd, 1) := by decide +kernel
theorem dX2_keep_16 : decode cX2_keep 16 = .ok (.bipush 20, 2) := by decide +kernel
theorem dX2_keep_18 : decode cX2_keep 18 = .ok (.irem, 1) := by decide +kernel
theorem dX2_keep_19 : decode cX2_keep 19 = .ok (.putfield 24, 3) := by decide +kernel
theorem dX2_keep_22 : decode cX2_keep 22 = .ok (.aload_n 0, 1) := by decide +kernel
theorem dX2_keep_23 : decode cX2_keep 23 = .ok (.bipush 19, 2) := by decide +kernel
theorem dX2_keep_25 : decode cX2_keep 25 = .ok (.putfield 20, 3) := by decide +kernel
theorem dX2_keep_28 : decode cX2_keep 28 = .ok (.aload_n 0, 1) := by decide +kernel
theorem dX2_keep_29 : decode cX2_keep 29 = .ok (.aload_n 0, 1) := by decide +kernel
theorem dX2_keep_30 : decode cX2_keep 30 = .ok (.getfield 20, 3) := by decide +kernel
theorem dX2_keep_33 : decode cX2_keep 33 = .ok (.invokevirtual 27, 3) := by decide +kernel
theorem dX2_keep_36 : decode cX2_keep 36 = .ok (.aload_n 1, 1) := by decide +kernel
theorem dX2_keep_37 : decode cX2_keep 37 = .ok (.invokevirtual 31, 3) := by decide +kernel
theorem dX2_keep_40 : decode cX2_keep 40 = .ok (.aload_n 0, 1) := by decide +kernel
theorem dX2_keep_41 : decode cX2_keep 41 = .ok (.dup, 1) := by decide +kernel
theorem dX2_keep_42 : decode cX2_keep 42 = .ok (.getfield 20, 3) := by decide +kernel
theorem dX2_keep_45 : decode cX2_keep 45 = .ok (.iconst 1, 1) := by decide +kernel
theorem dX2_keep_46 : decode cX2_keep 46 = .ok (.iadd, 1) := by decide +kernel
theorem dX2_keep_47 : decode cX2_keep 47 = .ok (.putfield 20, 3) := by decide +kernel
theorem dX2_keep_50 : decode cX2_keep 50 = .ok (.return_, 1) := by decide +kernel
theorem dX2_takeBack_0 : decode cX2_takeBack 0 = .ok (.aload_n 0, 1) := by decide +kernel
theorem dX2_takeBack_1 : decode cX2_takeBack 1 = .ok (.getfield 20, 3) := by decide +kernel
theorem dX2_takeBack_4 : decode cX2_takeBack 4 = .ok (.ifCond .le 25, 3) := by decide +kernel
theorem dX2_takeBack_7 : decode cX2_takeBack 7 = .ok (.aload_n 0, 1) := by decide +kernel
theorem dX2_takeBack_8 : decode cX2_takeBack 8 = .ok (.dup, 1) := by decide +kernel
theorem dX2_takeBack_9 : decode cX2_takeBack 9 = .ok (.getfield 20, 3) := by decide +kernel
theorem dX2_takeBack_12 : decode cX2_takeBack 12 = .ok (.iconst 1, 1) := by decide +kernel
theorem dX2_takeBack_13 : decode cX2_takeBack 13 = .ok (.isub, 1) := by decide +kernel
theorem dX2_takeBack_14 : decode cX2_takeBack 14 = .ok (.putfield 20, 3) := by decide +kernel
theorem dX2_takeBack_17 : decode cX2_takeBack 17 = .ok (.aload_n 1, 1) := by decide +kernel
theorem dX2_takeBack_18 : decode cX2_takeBack 18 = .ok (.aload_n 0, 1) := by decide +kernel
theorem dX2_takeBack_19 : decode cX2_takeBack 19 = .ok (.aload_n 0, 1) := by decide +kernel
theorem dX2_takeBack_20 : decode cX2_takeBack 20 = .ok (.getfield 20, 3) := by decide +kernel
theorem dX2_takeBack_23 : decode cX2_takeBack 23 = .ok (.invokevirtual 27, 3) := by decide +kernel
theorem dX2_takeBack_26 : decode cX2_takeBack 26 = .ok (.invokevirtual 31, 3) := by decide +kernel
theorem dX2_takeBack_29 : decode cX2_takeBack 29 = .ok (.return_, 1) := by decide +kernel
theorem dX2_copyFrom_0 : decode cX2_copyFrom 0 = .ok (.aload_n 0, 1) := by decide +kernel
theorem dX2_copyFrom_1 : decode cX2_copyFrom 1 = .ok (.iconst 0, 1) := by decide +kernel
theorem dX2_copyFrom_2 : decode cX2_copyFrom 2 = .ok (.putfield 24, 3) := by decide +kernel
theorem dX2_copyFrom_5 : decode cX2_copyFrom 5 = .ok (.aload_n 0, 1) := by decide +kernel
theorem dX2_copyFrom_6 : decode cX2_copyFrom 6 = .ok (.aload_n 1, 1) := by decide +kernel
theorem dX2_copyFrom_7 : decode cX2_copyFrom 7 = .ok (.getfield 20, 3) := by decide +kernel
theorem dX2_copyFrom_10 : decode cX2_copyFrom 10 = .ok (.putfield 20, 3) := by decide +kernel
theorem dX2_copyFrom_13 : decode cX2_copyFrom 13 = .ok (.iconst 0, 1) := by decide +kernel
theorem dX2_copyFrom_14 : decode cX2_copyFrom 14 = .ok (.istore_n 2, 1) := by decide +kernel
theorem dX2_copyFrom_15 : decode cX2_copyFrom 15 = .ok (.iload_n 2, 1) := by decide +kernel
theorem dX2_copyFrom_16 : decode cX2_copyFrom 16 = .ok (.aload_n 0, 1) := by decide +kernel
theorem dX2_copyFrom_17 : decode cX2_copyFrom 17 = .ok (.getfield 20, 3) := by decide +kernel
theorem dX2_copyFrom_20 : decode cX2_copyFrom 20 = .ok (.if_icmp .ge 22, 3) := by decide +kernel
theorem dX2_copyFrom_23 : decode cX2_copyFrom 23 = .ok (.aload_n 0, 1) := by decide +kernel
theorem dX2_copyFrom_24 : decode cX2_copyFrom 24 = .ok (.iload_n 2, 1) := by decide +kernel
theorem dX2_copyFrom_25 : decode cX2_copyFrom 25 = .ok (.invokevirtual 27, 3) := by decide +kernel
theorem dX2_copyFrom_28 : decode cX2_copyFrom 28 = .ok (.aload_n 1, 1) := by decide +kernel
theorem dX2_copyFrom_29 : decode cX2_copyFrom 29 = .ok (.iload_n 2, 1) := by decide +kernel
theorem dX2_copyFrom_30 : decode cX2_copyFrom 30 = .ok (.invokevirtual 27, 3) := by decide +kernel
theorem dX2_copyFrom_33 : decode cX2_copyFrom 33 = .ok (.invokevirtual 31, 3) := by decide +kernel
theorem dX2_copyFrom_36 : decode cX2_copyFrom 36 = .ok (.iinc 2 1, 3) := by decide +kernel
theorem dX2_copyFrom_39 : decode cX2_copyFrom 39 = .ok (.goto (-24), 3) := by decide +kernel
theorem dX2_copyFrom_42 : decode cX2_copyFrom 42 = .ok (.return_, 1) := by decide +kernel
theorem dX2_kept_0 : decode cX2_kept 0 = .ok (.aload_n 0, 1) := by decide +kernel
theorem dX2_kept_1 : decode cX2_kept 1 = .ok (.getfield 11, 3) := by decide +kernel
theorem dX2_kept_4 : decode cX2_kept 4 = .ok (.aload_n 0, 1) := by decide +kernel
theorem dX2_kept_5 : decode cX2_kept 5 = .ok (.getfield 24, 3) := by decide +kernel
theorem dX2_kept_8 : decode cX2_kept 8 = .ok (.iload_n 1, 1) := by decide +kernel
theorem dX2_kept_9 : decode cX2_kept 9 = .ok (.iadd, 1) := by decide +kernel
theorem dX2_kept_10 : decode cX2_kept 10 = .ok (.bipush 20, 2) := by decide +kernel
theorem dX2_kept_12 : decode cX2_kept 12 = .ok (.invokestatic 35, 3) := by decide +kernel
theorem dX2_kept_15 : decode cX2_kept 15 = .ok (.aaload, 1) := by decide +kernel
theorem dX2_kept_16 : decode cX2_kept 16 = .ok (.areturn, 1) := by decide +kernel
theorem dX3_init_0 : decode cX3_init 0 = .ok (.aload_n 0, 1) := by decide +kernel
theorem dX3_init_1 : decode cX3_init 1 = .ok (.invokespecial 3, 3) := by decide +kernel
theorem dX3_init_4 : decode cX3_init 4 = .ok (.aload_n 0, 1) := by decide +kernel
theorem dX3_init_5 : decode cX3_init 5 = .ok (.bipush 31, 2) := by decide +kernel
theorem dX3_init_7 : decode cX3_init 7 = .ok (.anewarray 9, 3) := by decide +kernel
theorem dX3_init_10 : decode cX3_init 10 = .ok (.putfield 11, 3) := by decide +kernel
theorem dX3_init_13 : decode cX3_init 13 = .ok (.aload_n 0, 1) := by decide +kernel
theorem dX3_init_14 : decode cX3_init 14 = .ok (.bipush 30, 2) := by decide +kernel
theorem dX3_init_16 : decode cX3_init 16 = .ok (.newarray .int, 2) := by decide +kernel
theorem dX3_init_18 : decode cX3_init 18 = .ok (.putfield 17, 3) := by decide +kernel
theorem dX3_init_21 : decode cX3_init 21 = .ok (.iconst 0, 1) := by decide +kernel
theorem dX3_init_22 : decode cX3_init 22 = .ok (.istore_n 1, 1) := by decide +kernel
theorem dX3_init_23 : decode cX3_init 23 = .ok (.iload_n 1, 1) := by decide +kernel
theorem dX3_init_24 : decode cX3_init 24 = .ok (.bipush 30, 2) := by decide +kernel
theorem dX3_init_26 : decode cX3_init 26 = .ok (.if_icmp .gt 22, 3) := by decide +kernel
theorem dX3_init_29 : decode cX3_init 29 = .ok (.aload_n 0, 1) := by decide +kernel
theorem dX3_init_30 : decode cX3_init 30 = .ok (.getfield 11, 3) := by decide +kernel
theorem dX3_init_33 : decode cX3_init 33 = .ok (.iload_n 1, 1) := by decide +kernel
theorem dX3_init_34 : decode cX3_init 34 = .ok (.new 9, 3) := by decide +kernel
theorem dX3_init_37 : decode cX3_init 37 = .ok (.dup, 1) := by decide +kernel
theorem dX3_init_38 : decode cX3_init 38 = .ok (.invokespecial 21, 3) := by decide +kernel
theorem dX3_init_41 : decode cX3_init 41 = .ok (.aastore, 1) := by decide +kernel
theorem dX3_init_42 : decode cX3_init 42 = .ok (.iinc 1 1, 3) := by decide +kernel
theorem dX3_init_45 : decode cX3_init 45 = .ok (.goto (-22), 3) := by decide +kernel
theorem dX3_init_48 : decode cX3_init 48 = .ok (.return_, 1) := by decide +kernel
theorem dX3_travel_0 : decode cX3_travel 0 = .ok (.aload_n 0, 1) := by decide +kernel
theorem dX3_travel_1 : decode cX3_travel 1 = .ok (.getfield 11, 3) := by decide +kernel
theorem dX3_travel_4 : decode cX3_travel 4 = .ok (.iconst 0, 1) := by decide +kernel
theorem dX3_travel_5 : decode cX3_travel 5 = .ok (.aaload, 1) := by decide +kernel
theorem dX3_travel_6 : decode cX3_travel 6 = .ok (.aload_n 1, 1) := by decide +kernel
theorem dX3_travel_7 : decode cX3_travel 7 = .ok (.getfield 22, 3) := by decide +kernel
theorem dX3_travel_10 : decode cX3_travel 10 = .ok (.invokevirtual 28, 3) := by decide +kernel
theorem dX3_travel_13 : decode cX3_travel 13 = .ok (.aload_n 0, 1) := by decide +kernel
theorem dX3_travel_14 : decode cX3_travel 14 = .ok (.iconst 0, 1) := by decide +kernel
theorem dX3_travel_15 : decode cX3_travel 15 = .ok (.putfield 32, 3) := by decide +kernel
theorem dX3_travel_18 : decode cX3_travel 18 = .ok (.aload_n 0, 1) := by decide +kernel
theorem dX3_travel_19 : decode cX3_travel 19 = .ok (.iconst 0, 1) := by decide +kernel
theorem dX3_travel_20 : decode cX3_travel 20 = .ok (.putfield 36, 3) := by decide +kernel
theorem dX3_travel_23 : decode cX3_travel 23 = .ok (.aload_n 0, 1) := by decide +kernel
theorem dX3_travel_24 : decode cX3_travel 24 = .ok (.iconst (-1), 1) := by decide +kernel
theorem dX3_travel_25 : decode cX3_travel 25 = .ok (.putfield 39, 3) := by decide +kernel
theorem dX3_travel_28 : decode cX3_travel 28 = .ok (.aload_n 0, 1) := by decide +kernel
theorem dX3_travel_29 : decode cX3_travel 29 = .ok (.iconst (-1), 1) := by decide +kernel
theorem dX3_travel_30 : decode cX3_travel 30 = .ok (.putfield 42, 3) := by decide +kernel
theorem dX3_travel_33 : decode cX3_travel 33 = .ok (.iconst 0, 1) := by decide +kernel
theorem dX3_travel_34 : decode cX3_travel 34 = .ok (.istore 4, 2) := by decide +kernel
theorem dX3_travel_36 : decode cX3_travel 36 = .ok (.iload 4, 2) := by decide +kernel
theorem dX3_travel_38 : decode cX3_travel 38 = .ok (.bipush 30, 2) := by decide +kernel
theorem dX3_travel_40 : decode cX3_travel 40 = .ok (.if_icmp .gt 109, 3) := by decide +kernel
theorem dX3_travel_43 : decode cX3_travel 43 = .ok (.aload_n 0, 1) := by decide +kernel
theorem dX3_travel_44 : decode cX3_travel 44 = .ok (.getfield 42, 3) := by decide +kernel
theorem dX3_travel_47 : decode cX3_travel 47 = .ok (.iconst (-1), 1) := by decide +kernel
theorem dX3_travel_48 : decode cX3_travel 48 = .ok (.if_icmp .ne 101, 3) := by decide +kernel
theorem dX3_travel_51 : decode cX3_travel 51 = .ok (.aload_n 3, 1) := by decide +kernel
theorem dX3_travel_52 : decode cX3_travel 52 = .ok (.aload_n 0, 1) := by decide +kernel
theorem dX3_travel_53 : decode cX3_travel 53 = .ok (.getfield 11, 3) := by decide +kernel
theorem dX3_travel_56 : decode cX3_travel 56 = .ok (.iload 4, 2) := by decide +kernel
theorem dX3_travel_58 : decode cX3_travel 58 = .ok (.aaload, 1) := by decide +kernel
theorem dX3_travel_59 : decode cX3_travel 59 = .ok (.aload_n 1, 1) := by decide +kernel
theorem dX3_travel_60 : decode cX3_travel 60 = .ok (.iload_n 2, 1) := by decide +kernel
theorem dX3_travel_61 : decode cX3_travel 61 = .ok (.invokevirtual 45, 3) := by decide +kernel
theorem dX3_travel_64 : decode cX3_travel 64 = .ok (.aload_n 0, 1) := by decide +kernel
theorem dX3_travel_65 : decode cX3_travel 65 = .ok (.aload_n 0, 1) := by decide +kernel
theorem dX3_travel_66 : decode cX3_travel 66 = .ok (.iload 4, 2) := by decide +kernel
theorem dX3_travel_68 : decode cX3_travel 68 = .ok (.aload_n 3, 1) := by decide +kernel
theorem dX3_travel_69 : decode cX3_travel 69 = .ok (.invokevirtual 51, 3) := by decide +kernel
theorem dX3_travel_72 : decode cX3_travel 72 = .ok (.putfield 42, 3) := by decide +kernel
theorem dX3_travel_75 : decode cX3_travel 75 = .ok (.aload_n 0, 1) := by decide +kernel
theorem dX3_travel_76 : decode cX3_travel 76 = .ok (.getfield 42, 3) := by decide +kernel
theorem dX3_travel_79 : decode cX3_travel 79 = .ok (.iconst (-1), 1) := by decide +kernel
theorem dX3_travel_80 : decode cX3_travel 80 = .ok (.if_icmp .ne 63, 3) := by decide +kernel
theorem dX3_travel_83 : decode cX3_travel 83 = .ok (.iload 4, 2) := by decide +kernel
theorem dX3_travel_85 : decode cX3_travel 85 = .ok (.bipush 30, 2) := by decide +kernel
theorem dX3_travel_87 : decode cX3_travel 87 = .ok (.if_icmp .ge 56, 3) := by decide +kernel
theorem dX3_travel_90 : decode cX3_travel 90 = .ok (.aload_n 3, 1) := by decide +kernel
theorem dX3_travel_91 : decode cX3_travel 91 = .ok (.aload_n 3, 1) := by decide +kernel
theorem dX3_travel_92 : decode cX3_travel 92 = .ok (.getfield 55, 3) := by decide +kernel
theorem dX3_travel_95 : decode cX3_travel 95 = .ok (.aload_n 3, 1) := by decide +kernel
theorem dX3_travel_96 : decode cX3_travel 96 = .ok (.getfield 58, 3) := by decide +kernel
theorem dX3_travel_99 : decode cX3_travel 99 = .ok (.aload_n 0, 1) := by decide +kernel
theorem dX3_travel_100 : decode cX3_travel 100 = .ok (.getfield 11, 3) := by decide +kernel
theorem dX3_travel_103 : decode cX3_travel 103 = .ok (.iload 4, 2) := by decide +kernel
theorem dX3_travel_105 : decode cX3_travel 105 = .ok (.iconst 1, 1) := by decide +kernel
theorem dX3_travel_106 : decode cX3_travel 106 = .ok (.iadd, 1) := by decide +kernel
theorem dX3_travel_107 : decode cX3_travel 107 = .ok (.aaload, 1) := by decide +kernel
theorem dX3_travel_108 : decode cX3_travel 108 = .ok (.invokevirtual 61, 3) := by decide +kernel
theorem dX3_travel_111 : decode cX3_travel 111 = .ok (.aload_n 0, 1) := by decide +kernel
theorem dX3_travel_112 : decode cX3_travel 112 = .ok (.getfield 17, 3) := by decide +kernel
theorem dX3_travel_115 : decode cX3_travel 115 = .ok (.iload 4, 2) := by decide +kernel
theorem dX3_travel_117 : decode cX3_travel 117 = .ok (.aload_n 3, 1) := by decide +kernel
theorem dX3_travel_118 : decode cX3_travel 118 = .ok (.invokevirtual 65, 3) := by decide +kernel
theorem dX3_travel_121 : decode cX3_travel 121 = .ok (.iastore, 1) := by decide +kernel
theorem dX3_travel_122 : decode cX3_travel 122 = .ok (.aload_n 0, 1) := by decide +kernel
theorem dX3_travel_123 : decode cX3_travel 123 = .ok (.dup, 1) := by decide +kernel
theorem dX3_travel_124 : decode cX3_travel 124 = .ok (.getfield 36, 3) := by decide +kernel
theorem dX3_travel_127 : decode cX3_travel 127 = .ok (.aload_n 3, 1) := by decide +kernel
theorem dX3_travel_128 : decode cX3_travel 128 = .ok (.getfield 58, 3) := by decide +kernel
theorem dX3_travel_131 : decode cX3_travel 131 = .ok (.iadd, 1) := by decide +kernel
theorem dX3_travel_132 : decode cX3_travel 132 = .ok (.putfield 36, 3) := by decide +kernel
theorem dX3_travel_135 : decode cX3_travel 135 = .ok (.aload_n 0, 1) := by decide +kernel
theorem dX3_travel_136 : decode cX3_travel 136 = .ok (.iload 4, 2) := by decide +kernel
theorem dX3_travel_138 : decode cX3_travel 138 = .ok (.iconst 1, 1) := by decide +kernel
theorem dX3_travel_139 : decode cX3_travel 139 = .ok (.iadd, 1) := by decide +kernel
theorem dX3_travel_140 : decode cX3_travel 140 = .ok (.putfield 32, 3) := by decide +kernel
theorem dX3_travel_143 : decode cX3_travel 143 = .ok (.iinc 4 1, 3) := by decide +kernel
theorem dX3_travel_146 : decode cX3_travel 146 = .ok (.goto (-110), 3) := by decide +kernel
theorem dX3_travel_149 : decode cX3_travel 149 = .ok (.return_, 1) := by decide +kernel
theorem dX3_endingOf_0 : decode cX3_endingOf 0 = .ok (.aload_n 0, 1) := by decide +kernel
theorem dX3_endingOf_1 : decode cX3_endingOf 1 = .ok (.aload_n 0, 1) := by decide +kernel
theorem dX3_endingOf_2 : decode cX3_endingOf 2 = .ok (.iload_n 1, 1) := by decide +kernel
theorem dX3_endingOf_3 : decode cX3_endingOf 3 = .ok (.invokevirtual 69, 3) := by decide +kernel
theorem dX3_endingOf_6 : decode cX3_endingOf 6 = .ok (.putfield 39, 3) := by decide +kernel
theorem dX3_endingOf_9 : decode cX3_endingOf 9 = .ok (.aload_n 0, 1) := by decide +kernel
theorem dX3_endingOf_10 : decode cX3_endingOf 10 = .ok (.getfield 39, 3) := by decide +kernel
theorem dX3_endingOf_13 : decode cX3_endingOf 13 = .ok (.iconst (-1), 1) := by decide +kernel
theorem dX3_endingOf_14 : decode cX3_endingOf 14 = .ok (.if_icmp .eq 5, 3) := by decide +kernel
theorem dX3_endingOf_17 : decode cX3_endingOf 17 = .ok (.iconst 1, 1) := by decide +kernel
theorem dX3_endingOf_18 : decode cX3_endingOf 18 = .ok (.ireturn, 1) := by decide +kernel
theorem dX3_endingOf_19 : decode cX3_endingOf 19 = .ok (.aload_n 2, 1) := by decide +kernel
theorem dX3_endingOf_20 : decode cX3_endingOf 20 = .ok (.getfield 58, 3) := by decide +kernel
theorem dX3_endingOf_23 : decode cX3_endingOf 23 = .ok (.ifCond .ne 5, 3) := by decide +kernel
theorem dX3_endingOf_26 : decode cX3_endingOf 26 = .ok (.iconst 0, 1) := by decide +kernel
theorem dX3_endingOf_27 : decode cX3_endingOf 27 = .ok (.ireturn, 1) := by decide +kernel
theorem dX3_endingOf_28 : decode cX3_endingOf 28 = .ok (.aload_n 2, 1) := by decide +kernel
theorem dX3_endingOf_29 : decode cX3_endingOf 29 = .ok (.invokevirtual 73, 3) := by decide +kernel
theorem dX3_endingOf_32 : decode cX3_endingOf 32 = .ok (.ifCond .ne 5, 3) := by decide +kernel
theorem dX3_endingOf_35 : decode cX3_endingOf 35 = .ok (.iconst 2, 1) := by decide +kernel
theorem dX3_endingOf_36 : decode cX3_endingOf 36 = .ok (.ireturn, 1) := by decide +kernel
theorem dX3_endingOf_37 : decode cX3_endingOf 37 = .ok (.iload_n 1, 1) := by decide +kernel
theorem dX3_endingOf_38 : decode cX3_endingOf 38 = .ok (.bipush 30, 2) := by decide +kernel
theorem dX3_endingOf_40 : decode cX3_endingOf 40 = .ok (.if_icmp .ge 7, 3) := by decide +kernel
theorem dX3_endingOf_43 : decode cX3_endingOf 43 = .ok (.iconst (-1), 1) := by decide +kernel
theorem dX3_endingOf_44 : decode cX3_endingOf 44 = .ok (.goto 4, 3) := by decide +kernel
theorem dX3_endingOf_47 : decode cX3_endingOf 47 = .ok (.iconst 3, 1) := by decide +kernel
theorem dX3_endingOf_48 : decode cX3_endingOf 48 = .ok (.ireturn, 1) := by decide +kernel
theorem dX3_earlierLike_0 : decode cX3_earlierLike 0 = .ok (.iconst 0, 1) := by decide +kernel
theorem dX3_earlierLike_1 : decode cX3_earlierLike 1 = .ok (.istore_n 2, 1) := by decide +kernel
theorem dX3_earlierLike_2 : decode cX3_earlierLike 2 = .ok (.iload_n 2, 1) := by decide +kernel
theorem dX3_earlierLike_3 : decode cX3_earlierLike 3 = .ok (.iload_n 1, 1) := by decide +kernel
theorem dX3_earlierLike_4 : decode cX3_earlierLike 4 = .ok (.if_icmp .ge 29, 3) := by decide +kernel
theorem dX3_earlierLike_7 : decode cX3_earlierLike 7 = .ok (.aload_n 0, 1) := by decide +kernel
theorem dX3_earlierLike_8 : decode cX3_earlierLike 8 = .ok (.getfield 11, 3) := by decide +kernel
theorem dX3_earlierLike_11 : decode cX3_earlierLike 11 = .ok (.iload_n 2, 1) := by decide +kernel
theorem dX3_earlierLike_12 : decode cX3_earlierLike 12 = .ok (.aaload, 1) := by decide +kernel
theorem dX3_earlierLike_13 : decode cX3_earlierLike 13 = .ok (.aload_n 0, 1) := by decide +kernel
theorem dX3_earlierLike_14 : decode cX3_earlierLike 14 = .ok (.getfield 11, 3) := by decide +kernel
theorem dX3_earlierLike_17 : decode cX3_earlierLike 17 = .ok (.iload_n 1, 1) := by decide +kernel
theorem dX3_earlierLike_18 : decode cX3_earlierLike 18 = .ok (.aaload, 1) := by decide +kernel
theorem dX3_earlierLike_19 : decode cX3_earlierLike 19 = .ok (.invokevirtual 77, 3) := by decide +kernel
theorem dX3_earlierLike_22 : decode cX3_earlierLike 22 = .ok (.ifCond .eq 5, 3) := by decide +kernel
theorem dX3_earlierLike_25 : decode cX3_earlierLike 25 = .ok (.iload_n 2, 1) := by decide +kernel
theorem dX3_earlierLike_26 : decode cX3_earlierLike 26 = .ok (.ireturn, 1) := by decide +kernel
theorem dX3_earlierLike_27 : decode cX3_earlierLike 27 = .ok (.iinc 2 1, 3) := by decide +kernel
theorem dX3_earlierLike_30 : decode cX3_earlierLike 30 = .ok (.goto (-28), 3) := by decide +kernel
theorem dX3_earlierLike_33 : decode cX3_earlierLike 33 = .ok (.iconst (-1), 1) := by decide +kernel
theorem dX3_earlierLike_34 : decode cX3_earlierLike 34 = .ok (.ireturn, 1) := by decide +kernel
theorem dX3_pageBehind_0 : decode cX3_pageBehind 0 = .ok (.aload_n 0, 1) := by decide +kernel
theorem dX3_pageBehind_1 : decode cX3_pageBehind 1 = .ok (.getfield 11, 3) := by decide +kernel
theorem dX3_pageBehind_4 : decode cX3_pageBehind 4 = .ok (.iconst 0, 1) := by decide +kernel
theorem dX3_pageBehind_5 : decode cX3_pageBehind 5 = .ok (.iload_n 1, 1) := by decide +kernel
theorem dX3_pageBehind_6 : decode cX3_pageBehind 6 = .ok (.aload_n 0, 1) := by decide +kernel
theorem dX3_pageBehind_7 : decode cX3_pageBehind 7 = .ok (.getfield 32, 3) := by decide +kernel
theorem dX3_pageBehind_10 : decode cX3_pageBehind 10 = .ok (.invokestatic 81, 3) := by decide +kernel
theorem dX3_pageBehind_13 : decode cX3_pageBehind 13 = .ok (.invokestatic 87, 3) := by decide +kernel
theorem dX3_pageBehind_16 : decode cX3_pageBehind 16 = .ok (.aaload, 1) := by decide +kernel
theorem dX3_pageBehind_17 : decode cX3_pageBehind 17 = .ok (.areturn, 1) := by decide +kernel
theorem dX3_rulesMade_0 : decode cX3_rulesMade 0 = .ok (.iconst 0, 1) := by decide +kernel
theorem dX3_rulesMade_1 : decode cX3_rulesMade 1 = .ok (.istore_n 2, 1) := by decide +kernel
theorem dX3_rulesMade_2 : decode cX3_rulesMade 2 = .ok (.iconst 0, 1) := by decide +kernel
theorem dX3_rulesMade_3 : decode cX3_rulesMade 3 = .ok (.iload_n 1, 1) := by decide +kernel
theorem dX3_rulesMade_4 : decode cX3_rulesMade 4 = .ok (.invokestatic 87, 3) := by decide +kernel
theorem dX3_rulesMade_7 : decode cX3_rulesMade 7 = .ok (.istore_n 3, 1) := by decide +kernel
theorem dX3_rulesMade_8 : decode cX3_rulesMade 8 = .ok (.iload_n 3, 1) := by decide +kernel
theorem dX3_rulesMade_9 : decode cX3_rulesMade 9 = .ok (.aload_n 0, 1) := by decide +kernel
theorem dX3_rulesMade_10 : decode cX3_rulesMade 10 = .ok (.getfield 32, 3) := by decide +kernel
theorem dX3_rulesMade_13 : decode cX3_rulesMade 13 = .ok (.if_icmp .ge 18, 3) := by decide +kernel
theorem dX3_rulesMade_16 : decode cX3_rulesMade 16 = .ok (.iload_n 2, 1) := by decide +kernel
theorem dX3_rulesMade_17 : decode cX3_rulesMade 17 = .ok (.aload_n 0, 1) := by decide +kernel
theorem dX3_rulesMade_18 : decode cX3_rulesMade 18 = .ok (.getfield 17, 3) := by decide +kernel
theorem dX3_rulesMade_21 : decode cX3_rulesMade 21 = .ok (.iload_n 3, 1) := by decide +kernel
theorem dX3_rulesMade_22 : decode cX3_rulesMade 22 = .ok (.iaload, 1) := by decide +kernel
theorem dX3_rulesMade_23 : decode cX3_rulesMade 23 = .ok (.ior, 1) := by decide +kernel
theorem dX3_rulesMade_24 : decode cX3_rulesMade 24 = .ok (.istore_n 2, 1) := by decide +kernel
theorem dX3_rulesMade_25 : decode cX3_rulesMade 25 = .ok (.iinc 3 1, 3) := by decide +kernel
theorem dX3_rulesMade_28 : decode cX3_rulesMade 28 = .ok (.goto (-20), 3) := by decide +kernel
theorem dX3_rulesMade_31 : decode cX3_rulesMade 31 = .ok (.iload_n 2, 1) := by decide +kernel
theorem dX3_rulesMade_32 : decode cX3_rulesMade 32 = .ok (.ireturn, 1) := by decide +kernel
theorem dX4_init_0 : decode cX4_init 0 = .ok (.aload_n 0, 1) := by decide +kernel
theorem dX4_init_1 : decode cX4_init 1 = .ok (.invokespecial 3, 3) := by decide +kernel
theorem dX4_init_4 : decode cX4_init 4 = .ok (.aload_n 0, 1) := by decide +kernel
theorem dX4_init_5 : decode cX4_init 5 = .ok (.sipush 200, 3) := by decide +kernel
theorem dX4_init_8 : decode cX4_init 8 = .ok (.newarray .byte, 2) := by decide +kernel
theorem dX4_init_10 : decode cX4_init 10 = .ok (.putfield 9, 3) := by decide +kernel
theorem dX4_init_13 : decode cX4_init 13 = .ok (.aload_n 0, 1) := by decide +kernel
theorem dX4_init_14 : decode cX4_init 14 = .ok (.sipush 200, 3) := by decide +kernel
theorem dX4_init_17 : decode cX4_init 17 = .ok (.newarray .byte, 2) := by decide +kernel
theorem dX4_init_19 : decode cX4_init 19 = .ok (.putfield 15, 3) := by decide +kernel
theorem dX4_init_22 : decode cX4_init 22 = .ok (.aload_n 0, 1) := by decide +kernel
theorem dX4_init_23 : decode cX4_init 23 = .ok (.bipush 8, 2) := by decide +kernel
theorem dX4_init_25 : decode cX4_init 25 = .ok (.newarray .int, 2) := by decide +kernel
theorem dX4_init_27 : decode cX4_init 27 = .ok (.putfield 18, 3) := by decide +kernel
theorem dX4_init_30 : decode cX4_init 30 = .ok (.aload_n 0, 1) := by decide +kernel
theorem dX4_init_31 : decode cX4_init 31 = .ok (.bipush 8, 2) := by decide +kernel
theorem dX4_init_33 : decode cX4_init 33 = .ok (.newarray .int, 2) := by decide +kernel
theorem dX4_init_35 : decode cX4_init 35 = .ok (.putfield 22, 3) := by decide +kernel
theorem dX4_init_38 : decode cX4_init 38 = .ok (.return_, 1) := by decide +kernel
theorem dX4_copyFrom_0 : decode cX4_copyFrom 0 = .ok (.aload_n 0, 1) := by decide +kernel
theorem dX4_copyFrom_1 : decode cX4_copyFrom 1 = .ok (.iconst 0, 1) := by decide +kernel
theorem dX4_copyFrom_2 : decode cX4_copyFrom 2 = .ok (.putfield 25, 3) := by decide +kernel
theorem dX4_copyFrom_5 : decode cX4_copyFrom 5 = .ok (.aload_n 0, 1) := by decide +kernel
theorem dX4_copyFrom_6 : decode cX4_copyFrom 6 = .ok (.aload_n 1, 1) := by decide +kernel
theorem dX4_copyFrom_7 : decode cX4_copyFrom 7 = .ok (.iconst 0, 1) := by decide +kernel
theorem dX4_copyFrom_8 : decode cX4_copyFrom 8 = .ok (.aload_n 1, 1) := by decide +kernel
theorem dX4_copyFrom_9 : decode cX4_copyFrom 9 = .ok (.getfield 25, 3) := by decide +kernel
theorem dX4_copyFrom_12 : decode cX4_copyFrom 12 = .ok (.invokevirtual 29, 3) := by decide +kernel
theorem dX4_copyFrom_15 : decode cX4_copyFrom 15 = .ok (.aload_n 0, 1) := by decide +kernel
theorem dX4_copyFrom_16 : decode cX4_copyFrom 16 = .ok (.aload_n 1, 1) := by decide +kernel
theorem dX4_copyFrom_17 : decode cX4_copyFrom 17 = .ok (.invokevirtual 33, 3) := by decide +kernel
theorem dX4_copyFrom_20 : decode cX4_copyFrom 20 = .ok (.return_, 1) := by decide +kernel
theorem dX4_copySpans_0 : decode cX4_copySpans 0 = .ok (.aload_n 0, 1) := by decide +kernel
theorem dX4_copySpans_1 : decode cX4_copySpans 1 = .ok (.aload_n 1, 1) := by decide +kernel
theorem dX4_copySpans_2 : decode cX4_copySpans 2 = .ok (.getfield 37, 3) := by decide +kernel
theorem dX4_copySpans_5 : decode cX4_copySpans 5 = .ok (.putfield 37, 3) := by decide +kernel
theorem dX4_copySpans_8 : decode cX4_copySpans 8 = .ok (.aload_n 1, 1) := by decide +kernel
theorem dX4_copySpans_9 : decode cX4_copySpans 9 = .ok (.getfield 18, 3) := by decide +kernel
theorem dX4_copySpans_12 : decode cX4_copySpans 12 = .ok (.iconst 0, 1) := by decide +kernel
theorem dX4_copySpans_13 : decode cX4_copySpans 13 = .ok (.aload_n 0, 1) := by decide +kernel
theorem dX4_copySpans_14 : decode cX4_copySpans 14 = .ok (.getfield 18, 3) := by decide +kernel
theorem dX4_copySpans_17 : decode cX4_copySpans 17 = .ok (.iconst 0, 1) := by decide +kernel
theorem dX4_copySpans_18 : decode cX4_copySpans 18 = .ok (.aload_n 0, 1) := by decide +kernel
theorem dX4_copySpans_19 : decode cX4_copySpans 19 = .ok (.getfield 37, 3) := by decide +kernel
theorem dX4_copySpans_22 : decode cX4_copySpans 22 = .ok (.invokestatic 40, 3) := by decide +kernel
theorem dX4_copySpans_25 : decode cX4_copySpans 25 = .ok (.aload_n 1, 1) := by decide +kernel
theorem dX4_copySpans_26 : decode cX4_copySpans 26 = .ok (.getfield 22, 3) := by decide +kernel
theorem dX4_copySpans_29 : decode cX4_copySpans 29 = .ok (.iconst 0, 1) := by decide +kernel
theorem dX4_copySpans_30 : decode cX4_copySpans 30 = .ok (.aload_n 0, 1) := by decide +kernel
theorem dX4_copySpans_31 : decode cX4_copySpans 31 = .ok (.getfield 22, 3) := by decide +kernel
theorem dX4_copySpans_34 : decode cX4_copySpans 34 = .ok (.iconst 0, 1) := by decide +kernel
theorem dX4_copySpans_35 : decode cX4_copySpans 35 = .ok (.aload_n 0, 1) := by decide +kernel
theorem dX4_copySpans_36 : decode cX4_copySpans 36 = .ok (.getfield 37, 3) := by decide +kernel
theorem dX4_copySpans_39 : decode cX4_copySpans 39 = .ok (.invokestatic 40, 3) := by decide +kernel
theorem dX4_copySpans_42 : decode cX4_copySpans 42 = .ok (.return_, 1) := by decide +kernel
theorem dX4_tell_0 : decode cX4_tell 0 = .ok (.aload_n 0, 1) := by decide +kernel
theorem dX4_tell_1 : decode cX4_tell 1 = .ok (.iconst 0, 1) := by decide +kernel
theorem dX4_tell_2 : decode cX4_tell 2 = .ok (.putfield 25, 3) := by decide +kernel
theorem dX4_tell_5 : decode cX4_tell 5 = .ok (.aload_n 0, 1) := by decide +kernel
theorem dX4_tell_6 : decode cX4_tell 6 = .ok (.iconst 0, 1) := by decide +kernel
theorem dX4_tell_7 : decode cX4_tell 7 = .ok (.putfield 37, 3) := by decide +kernel
theorem dX4_tell_10 : decode cX4_tell 10 = .ok (.aload_n 0, 1) := by decide +kernel
theorem dX4_tell_11 : decode cX4_tell 11 = .ok (.aload_n 1, 1) := by decide +kernel
theorem dX4_tell_12 : decode cX4_tell 12 = .ok (.iload_n 2, 1) := by decide +kernel
theorem dX4_tell_13 : decode cX4_tell 13 = .ok (.iconst (-1), 1) := by decide +kernel
theorem dX4_tell_14 : decode cX4_tell 14 = .ok (.invokevirtual 46, 3) := by decide +kernel
theorem dX4_tell_17 : decode cX4_tell 17 = .ok (.return_, 1) := by decide +kernel
theorem dX4_write_0 : decode cX4_write 0 = .ok (.iload_n 2, 1) := by decide +kernel
theorem dX4_write_1 : decode cX4_write 1 = .ok (.ifCond .lt 21, 3) := by decide +kernel
theorem dX4_write_4 : decode cX4_write 4 = .ok (.iload_n 2, 1) := by decide +kernel
theorem dX4_write_5 : decode cX4_write 5 = .ok (.aload_n 1, 1) := by decide +kernel
theorem dX4_write_6 : decode cX4_write 6 = .ok (.arraylength, 1) := by decide +kernel
theorem dX4_write_7 : decode cX4_write 7 = .ok (.if_icmp .gt 15, 3) := by decide +kernel
theorem dX4_write_10 : decode cX4_write 10 = .ok (.aload_n 0, 1) := by decide +kernel
theorem dX4_write_11 : decode cX4_write 11 = .ok (.getfield 25, 3) := by decide +kernel
theorem dX4_write_14 : decode cX4_write 14 = .ok (.iload_n 2, 1) := by decide +kernel
theorem dX4_write_15 : decode cX4_write 15 = .ok (.iadd, 1) := by decide +kernel
theorem dX4_write_16 : decode cX4_write 16 = .ok (.sipush 200, 3) := by decide +kernel
theorem dX4_write_19 : decode cX4_write 19 = .ok (.if_icmp .le 4, 3) := by decide +kernel
theorem dX4_write_22 : decode cX4_write 22 = .ok (.return_, 1) := by decide +kernel
theorem dX4_write_23 : decode cX4_write 23 = .ok (.iconst 0, 1) := by decide +kernel
theorem dX4_write_24 : decode cX4_write 24 = .ok (.istore 4, 2) := by decide +kernel
theorem dX4_write_26 : decode cX4_write 26 = .ok (.iload 4, 2) := by decide +kernel
theorem dX4_write_28 : decode cX4_write 28 = .ok (.iload_n 2, 1) := by decide +kernel
theorem dX4_write_29 : decode cX4_write 29 = .ok (.if_icmp .ge 39, 3) := by decide +kernel
theorem dX4_write_32 : decode cX4_write 32 = .ok (.aload_n 0, 1) := by decide +kernel
theorem dX4_write_33 : decode cX4_write 33 = .ok (.getfield 9, 3) := by decide +kernel
theorem dX4_write_36 : decode cX4_write 36 = .ok (.aload_n 0, 1) := by decide +kernel
theorem dX4_write_37 : decode cX4_write 37 = .ok (.getfield 25, 3) := by decide +kernel
theorem dX4_write_40 : decode cX4_write 40 = .ok (.iload 4, 2) := by decide +kernel
theorem dX4_write_42 : decode cX4_write 42 = .ok (.iadd, 1) := by decide +kernel
theorem dX4_write_43 : decode cX4_write 43 = .ok (.aload_n 1, 1) := by decide +kernel
theorem dX4_write_44 : decode cX4_write 44 = .ok (.iload 4, 2) := by decide +kernel
theorem dX4_write_46 : decode cX4_write 46 = .ok (.baload, 1) := by decide +kernel
theorem dX4_write_47 : decode cX4_write 47 = .ok (.bastore, 1) := by decide +kernel
theorem dX4_write_48 : decode cX4_write 48 = .ok (.aload_n 0, 1) := by decide +kernel
theorem dX4_write_49 : decode cX4_write 49 = .ok (.getfield 15, 3) := by decide +kernel
theorem dX4_write_52 : decode cX4_write 52 = .ok (.aload_n 0, 1) := by decide +kernel
theorem dX4_write_53 : decode cX4_write 53 = .ok (.getfield 25, 3) := by decide +kernel
theorem dX4_write_56 : decode cX4_write 56 = .ok (.iload 4, 2) := by decide +kernel
theorem dX4_write_58 : decode cX4_write 58 = .ok (.iadd, 1) := by decide +kernel
theorem dX4_write_59 : decode cX4_write 59 = .ok (.iload_n 3, 1) := by decide +kernel
theorem dX4_write_60 : decode cX4_write 60 = .ok (.i2b, 1) := by decide +kernel
theorem dX4_write_61 : decode cX4_write 61 = .ok (.bastore, 1) := by decide +kernel
theorem dX4_write_62 : decode cX4_write 62 = .ok (.iinc 4 1, 3) := by decide +kernel
theorem dX4_write_65 : decode cX4_write 65 = .ok (.goto (-39), 3) := by decide +kernel
theorem dX4_write_68 : decode cX4_write 68 = .ok (.aload_n 0, 1) := by decide +kernel
theorem dX4_write_69 : decode cX4_write 69 = .ok (.dup, 1) := by decide +kernel
theorem dX4_write_70 : decode cX4_write 70 = .ok (.getfield 25, 3) := by decide +kernel
theorem dX4_write_73 : decode cX4_write 73 = .ok (.iload_n 2, 1) := by decide +kernel
theorem dX4_write_74 : decode cX4_write 74 = .ok (.iadd, 1) := by decide +kernel
theorem dX4_write_75 : decode cX4_write 75 = .ok (.putfield 25, 3) := by decide +kernel
theorem dX4_write_78 : decode cX4_write 78 = .ok (.return_, 1) := by decide +kernel
theorem dX4_carry_0 : decode cX4_carry 0 = .ok (.iload_n 2, 1) := by decide +kernel
theorem dX4_carry_1 : decode cX4_carry 1 = .ok (.ifCond .lt 30, 3) := by decide +kernel
theorem dX4_carry_4 : decode cX4_carry 4 = .ok (.iload_n 2, 1) := by decide +kernel
theorem dX4_carry_5 : decode cX4_carry 5 = .ok (.iload_n 3, 1) := by decide +kernel
theorem dX4_carry_6 : decode cX4_carry 6 = .ok (.if_icmp .gt 25, 3) := by decide +kernel
theorem dX4_carry_9 : decode cX4_carry 9 = .ok (.iload_n 3, 1) := by decide +kernel
theorem dX4_carry_10 : decode cX4_carry 10 = .ok (.aload_n 1, 1) := by decide +kernel
theorem dX4_carry_11 : decode cX4_carry 11 = .ok (.getfield 25, 3) := by decide +kernel
theorem dX4_carry_14 : decode cX4_carry 14 = .ok (.if_icmp .gt 17, 3) := by decide +kernel
theorem dX4_carry_17 : decode cX4_carry 17 = .ok (.aload_n 0, 1) := by decide +kernel
theorem dX4_carry_18 : decode cX4_carry 18 = .ok (.getfield 25, 3) := by decide +kernel
theorem dX4_carry_21 : decode cX4_carry 21 = .ok (.iload_n 3, 1) := by decide +kernel
theorem dX4_carry_22 : decode cX4_carry 22 = .ok (.iadd, 1) := by decide +kernel
theorem dX4_carry_23 : decode cX4_carry 23 = .ok (.iload_n 2, 1) := by decide +kernel
theorem dX4_carry_24 : decode cX4_carry 24 = .ok (.isub, 1) := by decide +kernel
theorem dX4_carry_25 : decode cX4_carry 25 = .ok (.sipush 200, 3) := by decide +kernel
theorem dX4_carry_28 : decode cX4_carry 28 = .ok (.if_icmp .le 4, 3) := by decide +kernel
theorem dX4_carry_31 : decode cX4_carry 31 = .ok (.return_, 1) := by decide +kernel
theorem dX4_carry_32 : decode cX4_carry 32 = .ok (.aload_n 1, 1) := by decide +kernel
theorem dX4_carry_33 : decode cX4_carry 33 = .ok (.getfield 9, 3) := by decide +kernel
theorem dX4_carry_36 : decode cX4_carry 36 = .ok (.iload_n 2, 1) := by decide +kernel
theorem dX4_carry_37 : decode cX4_carry 37 = .ok (.aload_n 0, 1) := by decide +kernel
theorem dX4_carry_38 : decode cX4_carry 38 = .ok (.getfield 9, 3) := by decide +kernel
theorem dX4_carry_41 : decode cX4_carry 41 = .ok (.aload_n 0, 1) := by decide +kernel
theorem dX4_carry_42 : decode cX4_carry 42 = .ok (.getfield 25, 3) := by decide +kernel
theorem dX4_carry_45 : decode cX4_carry 45 = .ok (.iload_n 3, 1) := by decide +kernel
theorem dX4_carry_46 : decode cX4_carry 46 = .ok (.iload_n 2, 1) := by decide +kernel
theorem dX4_carry_47 : decode cX4_carry 47 = .ok (.isub, 1) := by decide +kernel
theorem dX4_carry_48 : decode cX4_carry 48 = .ok (.invokestatic 40, 3) := by decide +kernel
theorem dX4_carry_51 : decode cX4_carry 51 = .ok (.aload_n 1, 1) := by decide +kernel
theorem dX4_carry_52 : decode cX4_carry 52 = .ok (.getfield 15, 3) := by decide +kernel
theorem dX4_carry_55 : decode cX4_carry 55 = .ok (.iload_n 2, 1) := by decide +kernel
theorem dX4_carry_56 : decode cX4_carry 56 = .ok (.aload_n 0, 1) := by decide +kernel
theorem dX4_carry_57 : decode cX4_carry 57 = .ok (.getfield 15, 3) := by decide +kernel
theorem dX4_carry_60 : decode cX4_carry 60 = .ok (.aload_n 0, 1) := by decide +kernel
theorem dX4_carry_61 : decode cX4_carry 61 = .ok (.getfield 25, 3) := by decide +kernel
theorem dX4_carry_64 : decode cX4_carry 64 = .ok (.iload_n 3, 1) := by decide +kernel
theorem dX4_carry_65 : decode cX4_carry 65 = .ok (.iload_n 2, 1) := by decide +kernel
theorem dX4_carry_66 : decode cX4_carry 66 = .ok (.isub, 1) := by decide +kernel
theorem dX4_carry_67 : decode cX4_carry 67 = .ok (.invokestatic 40, 3) := by decide +kernel
theorem dX4_carry_70 : decode cX4_carry 70 = .ok (.aload_n 0, 1) := by decide +kernel
theorem dX4_carry_71 : decode cX4_carry 71 = .ok (.dup, 1) := by decide +kernel
theorem dX4_carry_72 : decode cX4_carry 72 = .ok (.getfield 25, 3) := by decide +kernel
theorem dX4_carry_75 : decode cX4_carry 75 = .ok (.iload_n 3, 1) := by decide +kernel
theorem dX4_carry_76 : decode cX4_carry 76 = .ok (.iload_n 2, 1) := by decide +kernel
theorem dX4_carry_77 : decode cX4_carry 77 = .ok (.isub, 1) := by decide +kernel
theorem dX4_carry_78 : decode cX4_carry 78 = .ok (.iadd, 1) := by decide +kernel
theorem dX4_carry_79 : decode cX4_carry 79 = .ok (.putfield 25, 3) := by decide +kernel
theorem dX4_carry_82 : decode cX4_carry 82 = .ok (.return_, 1) := by decide +kernel
theorem dX4_addSpan_0 : decode cX4_addSpan 0 = .ok (.aload_n 0, 1) := by decide +kernel
theorem dX4_addSpan_1 : decode cX4_addSpan 1 = .ok (.getfield 37, 3) := by decide +kernel
theorem dX4_addSpan_4 : decode cX4_addSpan 4 = .ok (.bipush 8, 2) := by decide +kernel
theorem dX4_addSpan_6 : decode cX4_addSpan 6 = .ok (.if_icmp .ge 33, 3) := by decide +kernel
theorem dX4_addSpan_9 : decode cX4_addSpan 9 = .ok (.aload_n 0, 1) := by decide +kernel
theorem dX4_addSpan_10 : decode cX4_addSpan 10 = .ok (.getfield 18, 3) := by decide +kernel
theorem dX4_addSpan_13 : decode cX4_addSpan 13 = .ok (.aload_n 0, 1) := by decide +kernel
theorem dX4_addSpan_14 : decode cX4_addSpan 14 = .ok (.getfield 37, 3) := by decide +kernel
theorem dX4_addSpan_17 : decode cX4_addSpan 17 = .ok (.iload_n 1, 1) := by decide +kernel
theorem dX4_addSpan_18 : decode cX4_addSpan 18 = .ok (.iastore, 1) := by decide +kernel
theorem dX4_addSpan_19 : decode cX4_addSpan 19 = .ok (.aload_n 0, 1) := by decide +kernel
theorem dX4_addSpan_20 : decode cX4_addSpan 20 = .ok (.getfield 22, 3) := by decide +kernel
theorem dX4_addSpan_23 : decode cX4_addSpan 23 = .ok (.aload_n 0, 1) := by decide +kernel
theorem dX4_addSpan_24 : decode cX4_addSpan 24 = .ok (.getfield 37, 3) := by decide +kernel
theorem dX4_addSpan_27 : decode cX4_addSpan 27 = .ok (.iload_n 2, 1) := by decide +kernel
theorem dX4_addSpan_28 : decode cX4_addSpan 28 = .ok (.iastore, 1) := by decide +kernel
theorem dX4_addSpan_29 : decode cX4_addSpan 29 = .ok (.aload_n 0, 1) := by decide +kernel
theorem dX4_addSpan_30 : decode cX4_addSpan 30 = .ok (.dup, 1) := by decide +kernel
theorem dX4_addSpan_31 : decode cX4_addSpan 31 = .ok (.getfield 37, 3) := by decide +kernel
theorem dX4_addSpan_34 : decode cX4_addSpan 34 = .ok (.iconst 1, 1) := by decide +kernel
theorem dX4_addSpan_35 : decode cX4_addSpan 35 = .ok (.iadd, 1) := by decide +kernel
theorem dX4_addSpan_36 : decode cX4_addSpan 36 = .ok (.putfield 37, 3) := by decide +kernel
theorem dX4_addSpan_39 : decode cX4_addSpan 39 = .ok (.return_, 1) := by decide +kernel
theorem dX4_removeSpan_0 : decode cX4_removeSpan 0 = .ok (.iload_n 1, 1) := by decide +kernel
theorem dX4_removeSpan_1 : decode cX4_removeSpan 1 = .ok (.iconst 1, 1) := by decide +kernel
theorem dX4_removeSpan_2 : decode cX4_removeSpan 2 = .ok (.iadd, 1) := by decide +kernel
theorem dX4_removeSpan_3 : decode cX4_removeSpan 3 = .ok (.istore_n 2, 1) := by decide +kernel
theorem dX4_removeSpan_4 : decode cX4_removeSpan 4 = .ok (.iload_n 2, 1) := by decide +kernel
theorem dX4_removeSpan_5 : decode cX4_removeSpan 5 = .ok (.ifCond .le 45, 3) := by decide +kernel
theorem dX4_removeSpan_8 : decode cX4_removeSpan 8 = .ok (.iload_n 2, 1) := by decide +kernel
theorem dX4_removeSpan_9 : decode cX4_removeSpan 9 = .ok (.aload_n 0, 1) := by decide +kernel
theorem dX4_removeSpan_10 : decode cX4_removeSpan 10 = .ok (.getfield 37, 3) := by decide +kernel
theorem dX4_removeSpan_13 : decode cX4_removeSpan 13 = .ok (.if_icmp .ge 37, 3) := by decide +kernel
theorem dX4_removeSpan_16 : decode cX4_removeSpan 16 = .ok (.aload_n 0, 1) := by decide +kernel
theorem dX4_removeSpan_17 : decode cX4_removeSpan 17 = .ok (.getfield 18, 3) := by decide +kernel
theorem dX4_removeSpan_20 : decode cX4_removeSpan 20 = .ok (.iload_n 2, 1) := by decide +kernel
theorem dX4_removeSpan_21 : decode cX4_removeSpan 21 = .ok (.iconst 1, 1) := by decide +kernel
theorem dX4_removeSpan_22 : decode cX4_removeSpan 22 = .ok (.isub, 1) := by decide +kernel
theorem dX4_removeSpan_23 : decode cX4_removeSpan 23 = .ok (.aload_n 0, 1) := by decide +kernel
theorem dX4_removeSpan_24 : decode cX4_removeSpan 24 = .ok (.getfield 18, 3) := by decide +kernel
theorem dX4_removeSpan_27 : decode cX4_removeSpan 27 = .ok (.iload_n 2, 1) := by decide +kernel
theorem dX4_removeSpan_28 : decode cX4_removeSpan 28 = .ok (.iaload, 1) := by decide +kernel
theorem dX4_removeSpan_29 : decode cX4_removeSpan 29 = .ok (.iastore, 1) := by decide +kernel
theorem dX4_removeSpan_30 : decode cX4_removeSpan 30 = .ok (.aload_n 0, 1) := by decide +kernel
theorem dX4_removeSpan_31 : decode cX4_removeSpan 31 = .ok (.getfield 22, 3) := by decide +kernel
theorem dX4_removeSpan_34 : decode cX4_removeSpan 34 = .ok (.iload_n 2, 1) := by decide +kernel
theorem dX4_removeSpan_35 : decode cX4_removeSpan 35 = .ok (.iconst 1, 1) := by decide +kernel
theorem dX4_removeSpan_36 : decode cX4_removeSpan 36 = .ok (.isub, 1) := by decide +kernel
theorem dX4_removeSpan_37 : decode cX4_removeSpan 37 = .ok (.aload_n 0, 1) := by decide +kernel
theorem dX4_removeSpan_38 : decode cX4_removeSpan 38 = .ok (.getfield 22, 3) := by decide +kernel
theorem dX4_removeSpan_41 : decode cX4_removeSpan 41 = .ok (.iload_n 2, 1) := by decide +kernel
theorem dX4_removeSpan_42 : decode cX4_removeSpan 42 = .ok (.iaload, 1) := by decide +kernel
theorem dX4_removeSpan_43 : decode cX4_removeSpan 43 = .ok (.iastore, 1) := by decide +kernel
theorem dX4_removeSpan_44 : decode cX4_removeSpan 44 = .ok (.iinc 2 1, 3) := by decide +kernel
theorem dX4_removeSpan_47 : decode cX4_removeSpan 47 = .ok (.goto (-43), 3) := by decide +kernel
theorem dX4_removeSpan_50 : decode cX4_removeSpan 50 = .ok (.aload_n 0, 1) := by decide +kernel
theorem dX4_removeSpan_51 : decode cX4_removeSpan 51 = .ok (.dup, 1) := by decide +kernel
theorem dX4_removeSpan_52 : decode cX4_removeSpan 52 = .ok (.getfield 37, 3) := by decide +kernel
theorem dX4_removeSpan_55 : decode cX4_removeSpan 55 = .ok (.iconst 1, 1) := by decide +kernel
theorem dX4_removeSpan_56 : decode cX4_removeSpan 56 = .ok (.isub, 1) := by decide +kernel
theorem dX4_removeSpan_57 : decode cX4_removeSpan 57 = .ok (.putfield 37, 3) := by decide +kernel
theorem dX4_removeSpan_60 : decode cX4_removeSpan 60 = .ok (.return_, 1) := by decide +kernel
theorem dX4_shiftSpans_0 : decode cX4_shiftSpans 0 = .ok (.iconst 0, 1) := by decide +kernel
theorem dX4_shiftSpans_1 : decode cX4_shiftSpans 1 = .ok (.istore 4, 2) := by decide +kernel
theorem dX4_shiftSpans_3 : decode cX4_shiftSpans 3 = .ok (.iload 4, 2) := by decide +kernel
theorem dX4_shiftSpans_5 : decode cX4_shiftSpans 5 = .ok (.aload_n 0, 1) := by decide +kernel
theorem dX4_shiftSpans_6 : decode cX4_shiftSpans 6 = .ok (.getfield 37, 3) := by decide +kernel
theorem dX4_shiftSpans_9 : decode cX4_shiftSpans 9 = .ok (.if_icmp .ge 42, 3) := by decide +kernel
theorem dX4_shiftSpans_12 : decode cX4_shiftSpans 12 = .ok (.aload_n 1, 1) := by decide +kernel
theorem dX4_shiftSpans_13 : decode cX4_shiftSpans 13 = .ok (.getfield 18, 3) := by decide +kernel
theorem dX4_shiftSpans_16 : decode cX4_shiftSpans 16 = .ok (.iload 4, 2) := by decide +kernel
theorem dX4_shiftSpans_18 : decode cX4_shiftSpans 18 = .ok (.iaload, 1) := by decide +kernel
theorem dX4_shiftSpans_19 : decode cX4_shiftSpans 19 = .ok (.iload_n 2, 1) := by decide +kernel
theorem dX4_shiftSpans_20 : decode cX4_shiftSpans 20 = .ok (.if_icmp .lt 25, 3) := by decide +kernel
theorem dX4_shiftSpans_23 : decode cX4_shiftSpans 23 = .ok (.aload_n 0, 1) := by decide +kernel
theorem dX4_shiftSpans_24 : decode cX4_shiftSpans 24 = .ok (.getfield 18, 3) := by decide +kernel
theorem dX4_shiftSpans_27 : decode cX4_shiftSpans 27 = .ok (.iload 4, 2) := by decide +kernel
theorem dX4_shiftSpans_29 : decode cX4_shiftSpans 29 = .ok (.dup2, 1) := by decide +kernel
theorem dX4_shiftSpans_30 : decode cX4_shiftSpans 30 = .ok (.iaload, 1) := by decide +kernel
theorem dX4_shiftSpans_31 : decode cX4_shiftSpans 31 = .ok (.iload_n 3, 1) := by decide +kernel
theorem dX4_shiftSpans_32 : decode cX4_shiftSpans 32 = .ok (.iadd, 1) := by decide +kernel
theorem dX4_shiftSpans_33 : decode cX4_shiftSpans 33 = .ok (.iastore, 1) := by decide +kernel
theorem dX4_shiftSpans_34 : decode cX4_shiftSpans 34 = .ok (.aload_n 0, 1) := by decide +kernel
theorem dX4_shiftSpans_35 : decode cX4_shiftSpans 35 = .ok (.getfield 22, 3) := by decide +kernel
theorem dX4_shiftSpans_38 : decode cX4_shiftSpans 38 = .ok (.iload 4, 2) := by decide +kernel
theorem dX4_shiftSpans_40 : decode cX4_shiftSpans 40 = .ok (.dup2, 1) := by decide +kernel
theorem dX4_shiftSpans_41 : decode cX4_shiftSpans 41 = .ok (.iaload, 1) := by decide +kernel
theorem dX4_shiftSpans_42 : decode cX4_shiftSpans 42 = .ok (.iload_n 3, 1) := by decide +kernel
theorem dX4_shiftSpans_43 : decode cX4_shiftSpans 43 = .ok (.iadd, 1) := by decide +kernel
theorem dX4_shiftSpans_44 : decode cX4_shiftSpans 44 = .ok (.iastore, 1) := by decide +kernel
theorem dX4_shiftSpans_45 : decode cX4_shiftSpans 45 = .ok (.iinc 4 1, 3) := by decide +kernel
theorem dX4_shiftSpans_48 : decode cX4_shiftSpans 48 = .ok (.goto (-45), 3) := by decide +kernel
theorem dX4_shiftSpans_51 : decode cX4_shiftSpans 51 = .ok (.return_, 1) := by decide +kernel
theorem dX4_hides_0 : decode cX4_hides 0 = .ok (.iconst 0, 1) := by decide +kernel
theorem dX4_hides_1 : decode cX4_hides 1 = .ok (.istore_n 3, 1) := by decide +kernel
theorem dX4_hides_2 : decode cX4_hides 2 = .ok (.iload_n 3, 1) := by decide +kernel
theorem dX4_hides_3 : decode cX4_hides 3 = .ok (.aload_n 0, 1) := by decide +kernel
theorem dX4_hides_4 : decode cX4_hides 4 = .ok (.getfield 37, 3) := by decide +kernel
theorem dX4_hides_7 : decode cX4_hides 7 = .ok (.if_icmp .ge 31, 3) := by decide +kernel
theorem dX4_hides_10 : decode cX4_hides 10 = .ok (.iload_n 1, 1) := by decide +kernel
theorem dX4_hides_11 : decode cX4_hides 11 = .ok (.aload_n 0, 1) := by decide +kernel
theorem dX4_hides_12 : decode cX4_hides 12 = .ok (.getfield 22, 3) := by decide +kernel
theorem dX4_hides_15 : decode cX4_hides 15 = .ok (.iload_n 3, 1) := by decide +kernel
theorem dX4_hides_16 : decode cX4_hides 16 = .ok (.iaload, 1) := by decide +kernel
theorem dX4_hides_17 : decode cX4_hides 17 = .ok (.if_icmp .ge 15, 3) := by decide +kernel
theorem dX4_hides_20 : decode cX4_hides 20 = .ok (.aload_n 0, 1) := by decide +kernel
theorem dX4_hides_21 : decode cX4_hides 21 = .ok (.getfield 18, 3) := by decide +kernel
theorem dX4_hides_24 : decode cX4_hides 24 = .ok (.iload_n 3, 1) := by decide +kernel
theorem dX4_hides_25 : decode cX4_hides 25 = .ok (.iaload, 1) := by decide +kernel
theorem dX4_hides_26 : decode cX4_hides 26 = .ok (.iload_n 2, 1) := by decide +kernel
theorem dX4_hides_27 : decode cX4_hides 27 = .ok (.if_icmp .ge 5, 3) := by decide +kernel
theorem dX4_hides_30 : decode cX4_hides 30 = .ok (.iconst 1, 1) := by decide +kernel
theorem dX4_hides_31 : decode cX4_hides 31 = .ok (.ireturn, 1) := by decide +kernel
theorem dX4_hides_32 : decode cX4_hides 32 = .ok (.iinc 3 1, 3) := by decide +kernel
theorem dX4_hides_35 : decode cX4_hides 35 = .ok (.goto (-33), 3) := by decide +kernel
theorem dX4_hides_38 : decode cX4_hides 38 = .ok (.iconst 0, 1) := by decide +kernel
theorem dX4_hides_39 : decode cX4_hides 39 = .ok (.ireturn, 1) := by decide +kernel
theorem dX4_isLike_0 : decode cX4_isLike 0 = .ok (.aload_n 0, 1) := by decide +kernel
theorem dX4_isLike_1 : decode cX4_isLike 1 = .ok (.getfield 25, 3) := by decide +kernel
theorem dX4_isLike_4 : decode cX4_isLike 4 = .ok (.aload_n 1, 1) := by decide +kernel
theorem dX4_isLike_5 : decode cX4_isLike 5 = .ok (.getfield 25, 3) := by decide +kernel
theorem dX4_isLike_8 : decode cX4_isLike 8 = .ok (.if_icmp .ne 14, 3) := by decide +kernel
theorem dX4_isLike_11 : decode cX4_isLike 11 = .ok (.aload_n 0, 1) := by decide +kernel
theorem dX4_isLike_12 : decode cX4_isLike 12 = .ok (.getfield 37, 3) := by decide +kernel
theorem dX4_isLike_15 : decode cX4_isLike 15 = .ok (.aload_n 1, 1) := by decide +kernel
theorem dX4_isLike_16 : decode cX4_isLike 16 = .ok (.getfield 37, 3) := by decide +kernel
theorem dX4_isLike_19 : decode cX4_isLike 19 = .ok (.if_icmp .eq 5, 3) := by decide +kernel
theorem dX4_isLike_22 : decode cX4_isLike 22 = .ok (.iconst 0, 1) := by decide +kernel
theorem dX4_isLike_23 : decode cX4_isLike 23 = .ok (.ireturn, 1) := by decide +kernel
theorem dX4_isLike_24 : decode cX4_isLike 24 = .ok (.iconst 0, 1) := by decide +kernel
theorem dX4_isLike_25 : decode cX4_isLike 25 = .ok (.istore_n 2, 1) := by decide +kernel
theorem dX4_isLike_26 : decode cX4_isLike 26 = .ok (.iload_n 2, 1) := by decide +kernel
theorem dX4_isLike_27 : decode cX4_isLike 27 = .ok (.aload_n 0, 1) := by decide +kernel
theorem dX4_isLike_28 : decode cX4_isLike 28 = .ok (.getfield 37, 3) := by decide +kernel
theorem dX4_isLike_31 : decode cX4_isLike 31 = .ok (.if_icmp .ge 41, 3) := by decide +kernel
theorem dX4_isLike_34 : decode cX4_isLike 34 = .ok (.aload_n 0, 1) := by decide +kernel
theorem dX4_isLike_35 : decode cX4_isLike 35 = .ok (.getfield 18, 3) := by decide +kernel
theorem dX4_isLike_38 : decode cX4_isLike 38 = .ok (.iload_n 2, 1) := by decide +kernel
theorem dX4_isLike_39 : decode cX4_isLike 39 = .ok (.iaload, 1) := by decide +kernel
theorem dX4_isLike_40 : decode cX4_isLike 40 = .ok (.aload_n 1, 1) := by decide +kernel
theorem dX4_isLike_41 : decode cX4_isLike 41 = .ok (.getfield 18, 3) := by decide +kernel
theorem dX4_isLike_44 : decode cX4_isLike 44 = .ok (.iload_n 2, 1) := by decide +kernel
theorem dX4_isLike_45 : decode cX4_isLike 45 = .ok (.iaload, 1) := by decide +kernel
theorem dX4_isLike_46 : decode cX4_isLike 46 = .ok (.if_icmp .ne 18, 3) := by decide +kernel
theorem dX4_isLike_49 : decode cX4_isLike 49 = .ok (.aload_n 0, 1) := by decide +kernel
theorem dX4_isLike_50 : decode cX4_isLike 50 = .ok (.getfield 22, 3) := by decide +kernel
theorem dX4_isLike_53 : decode cX4_isLike 53 = .ok (.iload_n 2, 1) := by decide +kernel
theorem dX4_isLike_54 : decode cX4_isLike 54 = .ok (.iaload, 1) := by decide +kernel
theorem dX4_isLike_55 : decode cX4_isLike 55 = .ok (.aload_n 1, 1) := by decide +kernel
theorem dX4_isLike_56 : decode cX4_isLike 56 = .ok (.getfield 22, 3) := by decide +kernel
theorem dX4_isLike_59 : decode cX4_isLike 59 = .ok (.iload_n 2, 1) := by decide +kernel
theorem dX4_isLike_60 : decode cX4_isLike 60 = .ok (.iaload, 1) := by decide +kernel
theorem dX4_isLike_61 : decode cX4_isLike 61 = .ok (.if_icmp .eq 5, 3) := by decide +kernel
theorem dX4_isLike_64 : decode cX4_isLike 64 = .ok (.iconst 0, 1) := by decide +kernel
theorem dX4_isLike_65 : decode cX4_isLike 65 = .ok (.ireturn, 1) := by decide +kernel
theorem dX4_isLike_66 : decode cX4_isLike 66 = .ok (.iinc 2 1, 3) := by decide +kernel
theorem dX4_isLike_69 : decode cX4_isLike 69 = .ok (.goto (-43), 3) := by decide +kernel
theorem dX4_isLike_72 : decode cX4_isLike 72 = .ok (.iconst 0, 1) := by decide +kernel
theorem dX4_isLike_73 : decode cX4_isLike 73 = .ok (.istore_n 2, 1) := by decide +kernel
theorem dX4_isLike_74 : decode cX4_isLike 74 = .ok (.iload_n 2, 1) := by decide +kernel
theorem dX4_isLike_75 : decode cX4_isLike 75 = .ok (.aload_n 0, 1) := by decide +kernel
theorem dX4_isLike_76 : decode cX4_isLike 76 = .ok (.getfield 25, 3) := by decide +kernel
theorem dX4_isLike_79 : decode cX4_isLike 79 = .ok (.if_icmp .ge 26, 3) := by decide +kernel
theorem dX4_isLike_82 : decode cX4_isLike 82 = .ok (.aload_n 0, 1) := by decide +kernel
theorem dX4_isLike_83 : decode cX4_isLike 83 = .ok (.getfield 9, 3) := by decide +kernel
theorem dX4_isLike_86 : decode cX4_isLike 86 = .ok (.iload_n 2, 1) := by decide +kernel
theorem dX4_isLike_87 : decode cX4_isLike 87 = .ok (.baload, 1) := by decide +kernel
theorem dX4_isLike_88 : decode cX4_isLike 88 = .ok (.aload_n 1, 1) := by decide +kernel
theorem dX4_isLike_89 : decode cX4_isLike 89 = .ok (.getfield 9, 3) := by decide +kernel
theorem dX4_isLike_92 : decode cX4_isLike 92 = .ok (.iload_n 2, 1) := by decide +kernel
theorem dX4_isLike_93 : decode cX4_isLike 93 = .ok (.baload, 1) := by decide +kernel
theorem dX4_isLike_94 : decode cX4_isLike 94 = .ok (.if_icmp .eq 5, 3) := by decide +kernel
theorem dX4_isLike_97 : decode cX4_isLike 97 = .ok (.iconst 0, 1) := by decide +kernel
theorem dX4_isLike_98 : decode cX4_isLike 98 = .ok (.ireturn, 1) := by decide +kernel
theorem dX4_isLike_99 : decode cX4_isLike 99 = .ok (.iinc 2 1, 3) := by decide +kernel
theorem dX4_isLike_102 : decode cX4_isLike 102 = .ok (.goto (-28), 3) := by decide +kernel
theorem dX4_isLike_105 : decode cX4_isLike 105 = .ok (.iconst 1, 1) := by decide +kernel
theorem dX4_isLike_106 : decode cX4_isLike 106 = .ok (.ireturn, 1) := by decide +kernel
theorem dX4_countPainted_0 : decode cX4_countPainted 0 = .ok (.iconst 0, 1) := by decide +kernel
theorem dX4_countPainted_1 : decode cX4_countPainted 1 = .ok (.istore_n 2, 1) := by decide +kernel
theorem dX4_countPainted_2 : decode cX4_countPainted 2 = .ok (.iconst 0, 1) := by decide +kernel
theorem dX4_countPainted_3 : decode cX4_countPainted 3 = .ok (.istore_n 3, 1) := by decide +kernel
theorem dX4_countPainted_4 : decode cX4_countPainted 4 = .ok (.iload_n 3, 1) := by decide +kernel
theorem dX4_countPainted_5 : decode cX4_countPainted 5 = .ok (.aload_n 0, 1) := by decide +kernel
theorem dX4_countPainted_6 : decode cX4_countPainted 6 = .ok (.getfield 25, 3) := by decide +kernel
theorem dX4_countPainted_9 : decode cX4_countPainted 9 = .ok (.if_icmp .ge 22, 3) := by decide +kernel
theorem dX4_countPainted_12 : decode cX4_countPainted 12 = .ok (.aload_n 0, 1) := by decide +kernel
theorem dX4_countPainted_13 : decode cX4_countPainted 13 = .ok (.getfield 15, 3) := by decide +kernel
theorem dX4_countPainted_16 : decode cX4_countPainted 16 = .ok (.iload_n 3, 1) := by decide +kernel
theorem dX4_countPainted_17 : decode cX4_countPainted 17 = .ok (.baload, 1) := by decide +kernel
theorem dX4_countPainted_18 : decode cX4_countPainted 18 = .ok (.iload_n 1, 1) := by decide +kernel
theorem dX4_countPainted_19 : decode cX4_countPainted 19 = .ok (.if_icmp .ne 6, 3) := by decide +kernel
theorem dX4_countPainted_22 : decode cX4_countPainted 22 = .ok (.iinc 2 1, 3) := by decide +kernel
theorem dX4_countPainted_25 : decode cX4_countPainted 25 = .ok (.iinc 3 1, 3) := by decide +kernel
theorem dX4_countPainted_28 : decode cX4_countPainted 28 = .ok (.goto (-24), 3) := by decide +kernel
theorem dX4_countPainted_31 : decode cX4_countPainted 31 = .ok (.iload_n 2, 1) := by decide +kernel
theorem dX4_countPainted_32 : decode cX4_countPainted 32 = .ok (.ireturn, 1) := by decide +kernel
theorem dX4_lineOf_0 : decode cX4_lineOf 0 = .ok (.iconst 0, 1) := by decide +kernel
theorem dX4_lineOf_1 : decode cX4_lineOf 1 = .ok (.istore_n 2, 1) := by decide +kernel
theorem dX4_lineOf_2 : decode cX4_lineOf 2 = .ok (.iconst 0, 1) := by decide +kernel
theorem dX4_lineOf_3 : decode cX4_lineOf 3 = .ok (.istore_n 3, 1) := by decide +kernel
theorem dX4_lineOf_4 : decode cX4_lineOf 4 = .ok (.iload_n 3, 1) := by decide +kernel
theorem dX4_lineOf_5 : decode cX4_lineOf 5 = .ok (.iload_n 1, 1) := by decide +kernel
theorem dX4_lineOf_6 : decode cX4_lineOf 6 = .ok (.if_icmp .ge 31, 3) := by decide +kernel
theorem dX4_lineOf_9 : decode cX4_lineOf 9 = .ok (.iload_n 3, 1) := by decide +kernel
theorem dX4_lineOf_10 : decode cX4_lineOf 10 = .ok (.aload_n 0, 1) := by decide +kernel
theorem dX4_lineOf_11 : decode cX4_lineOf 11 = .ok (.getfield 25, 3) := by decide +kernel
theorem dX4_lineOf_14 : decode cX4_lineOf 14 = .ok (.if_icmp .ge 23, 3) := by decide +kernel
theorem dX4_lineOf_17 : decode cX4_lineOf 17 = .ok (.aload_n 0, 1) := by decide +kernel
theorem dX4_lineOf_18 : decode cX4_lineOf 18 = .ok (.getfield 9, 3) := by decide +kernel
theorem dX4_lineOf_21 : decode cX4_lineOf 21 = .ok (.iload_n 3, 1) := by decide +kernel
theorem dX4_lineOf_22 : decode cX4_lineOf 22 = .ok (.baload, 1) := by decide +kernel
theorem dX4_lineOf_23 : decode cX4_lineOf 23 = .ok (.bipush 10, 2) := by decide +kernel
theorem dX4_lineOf_25 : decode cX4_lineOf 25 = .ok (.if_icmp .ne 6, 3) := by decide +kernel
theorem dX4_lineOf_28 : decode cX4_lineOf 28 = .ok (.iinc 2 1, 3) := by decide +kernel
theorem dX4_lineOf_31 : decode cX4_lineOf 31 = .ok (.iinc 3 1, 3) := by decide +kernel
theorem dX4_lineOf_34 : decode cX4_lineOf 34 = .ok (.goto (-30), 3) := by decide +kernel
theorem dX4_lineOf_37 : decode cX4_lineOf 37 = .ok (.iload_n 2, 1) := by decide +kernel
theorem dX4_lineOf_38 : decode cX4_lineOf 38 = .ok (.ireturn, 1) := by decide +kernel
theorem dX4_columnOf_0 : decode cX4_columnOf 0 = .ok (.iconst 0, 1) := by decide +kernel
theorem dX4_columnOf_1 : decode cX4_columnOf 1 = .ok (.istore_n 2, 1) := by decide +kernel
theorem dX4_columnOf_2 : decode cX4_columnOf 2 = .ok (.iconst 0, 1) := by decide +kernel
theorem dX4_columnOf_3 : decode cX4_columnOf 3 = .ok (.istore_n 3, 1) := by decide +kernel
theorem dX4_columnOf_4 : decode cX4_columnOf 4 = .ok (.iload_n 3, 1) := by decide +kernel
theorem dX4_columnOf_5 : decode cX4_columnOf 5 = .ok (.iload_n 1, 1) := by decide +kernel
theorem dX4_columnOf_6 : decode cX4_columnOf 6 = .ok (.if_icmp .ge 36, 3) := by decide +kernel
theorem dX4_columnOf_9 : decode cX4_columnOf 9 = .ok (.iload_n 3, 1) := by decide +kernel
theorem dX4_columnOf_10 : decode cX4_columnOf 10 = .ok (.aload_n 0, 1) := by decide +kernel
theorem dX4_columnOf_11 : decode cX4_columnOf 11 = .ok (.getfield 25, 3) := by decide +kernel
theorem dX4_columnOf_14 : decode cX4_columnOf 14 = .ok (.if_icmp .ge 28, 3) := by decide +kernel
theorem dX4_columnOf_17 : decode cX4_columnOf 17 = .ok (.aload_n 0, 1) := by decide +kernel
theorem dX4_columnOf_18 : decode cX4_columnOf 18 = .ok (.getfield 9, 3) := by decide +kernel
theorem dX4_columnOf_21 : decode cX4_columnOf 21 = .ok (.iload_n 3, 1) := by decide +kernel
theorem dX4_columnOf_22 : decode cX4_columnOf 22 = .ok (.baload, 1) := by decide +kernel
theorem dX4_columnOf_23 : decode cX4_columnOf 23 = .ok (.bipush 10, 2) := by decide +kernel
theorem dX4_columnOf_25 : decode cX4_columnOf 25 = .ok (.if_icmp .ne 7, 3) := by decide +kernel
theorem dX4_columnOf_28 : decode cX4_columnOf 28 = .ok (.iconst 0, 1) := by decide +kernel
theorem dX4_columnOf_29 : decode cX4_columnOf 29 = .ok (.goto 6, 3) := by decide +kernel
theorem dX4_columnOf_32 : decode cX4_columnOf 32 = .ok (.iload_n 2, 1) := by decide +kernel
theorem dX4_columnOf_33 : decode cX4_columnOf 33 = .ok (.iconst 1, 1) := by decide +kernel
theorem dX4_columnOf_34 : decode cX4_columnOf 34 = .ok (.iadd, 1) := by decide +kernel
theorem dX4_columnOf_35 : decode cX4_columnOf 35 = .ok (.istore_n 2, 1) := by decide +kernel
theorem dX4_columnOf_36 : decode cX4_columnOf 36 = .ok (.iinc 3 1, 3) := by decide +kernel
theorem dX4_columnOf_39 : decode cX4_columnOf 39 = .ok (.goto (-35), 3) := by decide +kernel
theorem dX4_columnOf_42 : decode cX4_columnOf 42 = .ok (.iload_n 2, 1) := by decide +kernel
theorem dX4_columnOf_43 : decode cX4_columnOf 43 = .ok (.ireturn, 1) := by decide +kernel
theorem dX4_countLines_0 : decode cX4_countLines 0 = .ok (.aload_n 0, 1) := by decide +kernel
theorem dX4_countLines_1 : decode cX4_countLines 1 = .ok (.aload_n 0, 1) := by decide +kernel
theorem dX4_countLines_2 : decode cX4_countLines 2 = .ok (.getfield 25, 3) := by decide +kernel
theorem dX4_countLines_5 : decode cX4_countLines 5 = .ok (.invokevirtual 50, 3) := by decide +kernel
theorem dX4_countLines_8 : decode cX4_countLines 8 = .ok (.iconst 1, 1) := by decide +kernel
theorem dX4_countLines_9 : decode cX4_countLines 9 = .ok (.iadd, 1) := by decide +kernel
theorem dX4_countLines_10 : decode cX4_countLines 10 = .ok (.ireturn, 1) := by decide +kernel
theorem dX4_longestLine_0 : decode cX4_longestLine 0 = .ok (.iconst 0, 1) := by decide +kernel
theorem dX4_longestLine_1 : decode cX4_longestLine 1 = .ok (.istore_n 1, 1) := by decide +kernel
theorem dX4_longestLine_2 : decode cX4_longestLine 2 = .ok (.iconst 0, 1) := by decide +kernel
theorem dX4_longestLine_3 : decode cX4_longestLine 3 = .ok (.istore_n 2, 1) := by decide +kernel
theorem dX4_longestLine_4 : decode cX4_longestLine 4 = .ok (.iconst 0, 1) := by decide +kernel
theorem dX4_longestLine_5 : decode cX4_longestLine 5 = .ok (.istore_n 3, 1) := by decide +kernel
theorem dX4_longestLine_6 : decode cX4_longestLine 6 = .ok (.iload_n 3, 1) := by decide +kernel
theorem dX4_longestLine_7 : decode cX4_longestLine 7 = .ok (.aload_n 0, 1) := by decide +kernel
theorem dX4_longestLine_8 : decode cX4_longestLine 8 = .ok (.getfield 25, 3) := by decide +kernel
theorem dX4_longestLine_11 : decode cX4_longestLine 11 = .ok (.if_icmp .ge 34, 3) := by decide +kernel
theorem dX4_longestLine_14 : decode cX4_longestLine 14 = .ok (.aload_n 0, 1) := by decide +kernel
theorem dX4_longestLine_15 : decode cX4_longestLine 15 = .ok (.getfield 9, 3) := by decide +kernel
theorem dX4_longestLine_18 : decode cX4_longestLine 18 = .ok (.iload_n 3, 1) := by decide +kernel
theorem dX4_longestLine_19 : decode cX4_longestLine 19 = .ok (.baload, 1) := by decide +kernel
theorem dX4_longestLine_20 : decode cX4_longestLine 20 = .ok (.bipush 10, 2) := by decide +kernel
theorem dX4_longestLine_22 : decode cX4_longestLine 22 = .ok (.if_icmp .ne 7, 3) := by decide +kernel
theorem dX4_longestLine_25 : decode cX4_longestLine 25 = .ok (.iconst 0, 1) := by decide +kernel
theorem dX4_longestLine_26 : decode cX4_longestLine 26 = .ok (.goto 6, 3) := by decide +kernel
theorem dX4_longestLine_29 : decode cX4_longestLine 29 = .ok (.iload_n 2, 1) := by decide +kernel
theorem dX4_longestLine_30 : decode cX4_longestLine 30 = .ok (.iconst 1, 1) := by decide +kernel
theorem dX4_longestLine_31 : decode cX4_longestLine 31 = .ok (.iadd, 1) := by decide +kernel
theorem dX4_longestLine_32 : decode cX4_longestLine 32 = .ok (.istore_n 2, 1) := by decide +kernel
theorem dX4_longestLine_33 : decode cX4_longestLine 33 = .ok (.iload_n 1, 1) := by decide +kernel
theorem dX4_longestLine_34 : decode cX4_longestLine 34 = .ok (.iload_n 2, 1) := by decide +kernel
theorem dX4_longestLine_35 : decode cX4_longestLine 35 = .ok (.invokestatic 54, 3) := by decide +kernel
theorem dX4_longestLine_38 : decode cX4_longestLine 38 = .ok (.istore_n 1, 1) := by decide +kernel
theorem dX4_longestLine_39 : decode cX4_longestLine 39 = .ok (.iinc 3 1, 3) := by decide +kernel
theorem dX4_longestLine_42 : decode cX4_longestLine 42 = .ok (.goto (-36), 3) := by decide +kernel
theorem dX4_longestLine_45 : decode cX4_longestLine 45 = .ok (.iload_n 1, 1) := by decide +kernel
theorem dX4_longestLine_46 : decode cX4_longestLine 46 = .ok (.ireturn, 1) := by decide +kernel
theorem dX4_hash_0 : decode cX4_hash 0 = .ok (.iconst 0, 1) := by decide +kernel
theorem dX4_hash_1 : decode cX4_hash 1 = .ok (.istore_n 1, 1) := by decide +kernel
theorem dX4_hash_2 : decode cX4_hash 2 = .ok (.iconst 0, 1) := by decide +kernel
theorem dX4_hash_3 : decode cX4_hash 3 = .ok (.istore_n 2, 1) := by decide +kernel
theorem dX4_hash_4 : decode cX4_hash 4 = .ok (.iload_n 2, 1) := by decide +kernel
theorem dX4_hash_5 : decode cX4_hash 5 = .ok (.aload_n 0, 1) := by decide +kernel
theorem dX4_hash_6 : decode cX4_hash 6 = .ok (.getfield 25, 3) := by decide +kernel
theorem dX4_hash_9 : decode cX4_hash 9 = .ok (.if_icmp .ge 21, 3) := by decide +kernel
theorem dX4_hash_12 : decode cX4_hash 12 = .ok (.bipush 31, 2) := by decide +kernel
theorem dX4_hash_14 : decode cX4_hash 14 = .ok (.iload_n 1, 1) := by decide +kernel
theorem dX4_hash_15 : decode cX4_hash 15 = .ok (.imul, 1) := by decide +kernel
theorem dX4_hash_16 : decode cX4_hash 16 = .ok (.aload_n 0, 1) := by decide +kernel
theorem dX4_hash_17 : decode cX4_hash 17 = .ok (.getfield 9, 3) := by decide +kernel
theorem dX4_hash_20 : decode cX4_hash 20 = .ok (.iload_n 2, 1) := by decide +kernel
theorem dX4_hash_21 : decode cX4_hash 21 = .ok (.baload, 1) := by decide +kernel
theorem dX4_hash_22 : decode cX4_hash 22 = .ok (.iadd, 1) := by decide +kernel
theorem dX4_hash_23 : decode cX4_hash 23 = .ok (.istore_n 1, 1) := by decide +kernel
theorem dX4_hash_24 : decode cX4_hash 24 = .ok (.iinc 2 1, 3) := by decide +kernel
theorem dX4_hash_27 : decode cX4_hash 27 = .ok (.goto (-23), 3) := by decide +kernel
theorem dX4_hash_30 : decode cX4_hash 30 = .ok (.iload_n 1, 1) := by decide +kernel
theorem dX4_hash_31 : decode cX4_hash 31 = .ok (.ireturn, 1) := by decide +kernel
theorem dX5_init_0 : decode cX5_init 0 = .ok (.aload_n 0, 1) := by decide +kernel
theorem dX5_init_1 : decode cX5_init 1 = .ok (.invokespecial 3, 3) := by decide +kernel
theorem dX5_init_4 : decode cX5_init 4 = .ok (.aload_n 0, 1) := by decide +kernel
theorem dX5_init_5 : decode cX5_init 5 = .ok (.iconst (-1), 1) := by decide +kernel
theorem dX5_init_6 : decode cX5_init 6 = .ok (.putfield 9, 3) := by decide +kernel
theorem dX5_init_9 : decode cX5_init 9 = .ok (.aload_n 0, 1) := by decide +kernel
theorem dX5_init_10 : decode cX5_init 10 = .ok (.aload_n 1, 1) := by decide +kernel
theorem dX5_init_11 : decode cX5_init 11 = .ok (.putfield 15, 3) := by decide +kernel
theorem dX5_init_14 : decode cX5_init 14 = .ok (.aload_n 0, 1) := by decide +kernel
theorem dX5_init_15 : decode cX5_init 15 = .ok (.aload_n 2, 1) := by decide +kernel
theorem dX5_init_16 : decode cX5_init 16 = .ok (.putfield 19, 3) := by decide +kernel
theorem dX5_init_19 : decode cX5_init 19 = .ok (.return_, 1) := by decide +kernel
theorem dX5_read_0 : decode cX5_read 0 = .ok (.aload_n 0, 1) := by decide +kernel
theorem dX5_read_1 : decode cX5_read 1 = .ok (.iconst 0, 1) := by decide +kernel
theorem dX5_read_2 : decode cX5_read 2 = .ok (.iload_n 1, 1) := by decide +kernel
theorem dX5_read_3 : decode cX5_read 3 = .ok (.aload_n 0, 1) := by decide +kernel
theorem dX5_read_4 : decode cX5_read 4 = .ok (.getfield 15, 3) := by decide +kernel
theorem dX5_read_7 : decode cX5_read 7 = .ok (.arraylength, 1) := by decide +kernel
theorem dX5_read_8 : decode cX5_read 8 = .ok (.sipush 300, 3) := by decide +kernel
theorem dX5_read_11 : decode cX5_read 11 = .ok (.invokestatic 23, 3) := by decide +kernel
theorem dX5_read_14 : decode cX5_read 14 = .ok (.invokestatic 23, 3) := by decide +kernel
theorem dX5_read_17 : decode cX5_read 17 = .ok (.invokestatic 29, 3) := by decide +kernel
theorem dX5_read_20 : decode cX5_read 20 = .ok (.putfield 32, 3) := by decide +kernel
theorem dX5_read_23 : decode cX5_read 23 = .ok (.aload_n 0, 1) := by decide +kernel
theorem dX5_read_24 : decode cX5_read 24 = .ok (.aload_n 2, 1) := by decide +kernel
theorem dX5_read_25 : decode cX5_read 25 = .ok (.putfield 19, 3) := by decide +kernel
theorem dX5_read_28 : decode cX5_read 28 = .ok (.aload_n 0, 1) := by decide +kernel
theorem dX5_read_29 : decode cX5_read 29 = .ok (.getfield 19, 3) := by decide +kernel
theorem dX5_read_32 : decode cX5_read 32 = .ok (.iconst 0, 1) := by decide +kernel
theorem dX5_read_33 : decode cX5_read 33 = .ok (.putfield 35, 3) := by decide +kernel
theorem dX5_read_36 : decode cX5_read 36 = .ok (.aload_n 0, 1) := by decide +kernel
theorem dX5_read_37 : decode cX5_read 37 = .ok (.iconst 0, 1) := by decide +kernel
theorem dX5_read_38 : decode cX5_read 38 = .ok (.putfield 40, 3) := by decide +kernel
theorem dX5_read_41 : decode cX5_read 41 = .ok (.aload_n 0, 1) := by decide +kernel
theorem dX5_read_42 : decode cX5_read 42 = .ok (.iconst 0, 1) := by decide +kernel
theorem dX5_read_43 : decode cX5_read 43 = .ok (.putfield 43, 3) := by decide +kernel
theorem dX5_read_46 : decode cX5_read 46 = .ok (.aload_n 0, 1) := by decide +kernel
theorem dX5_read_47 : decode cX5_read 47 = .ok (.iconst (-1), 1) := by decide +kernel
theorem dX5_read_48 : decode cX5_read 48 = .ok (.putfield 9, 3) := by decide +kernel
theorem dX5_read_51 : decode cX5_read 51 = .ok (.iconst 0, 1) := by decide +kernel
theorem dX5_read_52 : decode cX5_read 52 = .ok (.istore_n 3, 1) := by decide +kernel
theorem dX5_read_53 : decode cX5_read 53 = .ok (.iload_n 3, 1) := by decide +kernel
theorem dX5_read_54 : decode cX5_read 54 = .ok (.bipush 6, 2) := by decide +kernel
theorem dX5_read_56 : decode cX5_read 56 = .ok (.if_icmp .gt 76, 3) := by decide +kernel
theorem dX5_read_59 : decode cX5_read 59 = .ok (.aload_n 0, 1) := by decide +kernel
theorem dX5_read_60 : decode cX5_read 60 = .ok (.getfield 32, 3) := by decide +kernel
theorem dX5_read_63 : decode cX5_read 63 = .ok (.ifCond .le 69, 3) := by decide +kernel
theorem dX5_read_66 : decode cX5_read 66 = .ok (.aload_n 0, 1) := by decide +kernel
theorem dX5_read_67 : decode cX5_read 67 = .ok (.invokevirtual 46, 3) := by decide +kernel
theorem dX5_read_70 : decode cX5_read 70 = .ok (.ifCond .eq 17, 3) := by decide +kernel
theorem dX5_read_73 : decode cX5_read 73 = .ok (.aload_n 0, 1) := by decide +kernel
theorem dX5_read_74 : decode cX5_read 74 = .ok (.invokevirtual 50, 3) := by decide +kernel
theorem dX5_read_77 : decode cX5_read 77 = .ok (.ifCond .eq 10, 3) := by decide +kernel
theorem dX5_read_80 : decode cX5_read 80 = .ok (.aload_n 0, 1) := by decide +kernel
theorem dX5_read_81 : decode cX5_read 81 = .ok (.invokevirtual 53, 3) := by decide +kernel
theorem dX5_read_84 : decode cX5_read 84 = .ok (.ifCond .ne 5, 3) := by decide +kernel
theorem dX5_read_87 : decode cX5_read 87 = .ok (.iconst 0, 1) := by decide +kernel
theorem dX5_read_88 : decode cX5_read 88 = .ok (.ireturn, 1) := by decide +kernel
theorem dX5_read_89 : decode cX5_read 89 = .ok (.aload_n 0, 1) := by decide +kernel
theorem dX5_read_90 : decode cX5_read 90 = .ok (.getfield 19, 3) := by decide +kernel
theorem dX5_read_93 : decode cX5_read 93 = .ok (.dup, 1) := by decide +kernel
theorem dX5_read_94 : decode cX5_read 94 = .ok (.getfield 35, 3) := by decide +kernel
theorem dX5_read_97 : decode cX5_read 97 = .ok (.iconst 1, 1) := by decide +kernel
theorem dX5_read_98 : decode cX5_read 98 = .ok (.iadd, 1) := by decide +kernel
theorem dX5_read_99 : decode cX5_read 99 = .ok (.putfield 35, 3) := by decide +kernel
theorem dX5_read_102 : decode cX5_read 102 = .ok (.aload_n 0, 1) := by decide +kernel
theorem dX5_read_103 : decode cX5_read 103 = .ok (.getfield 40, 3) := by decide +kernel
theorem dX5_read_106 : decode cX5_read 106 = .ok (.aload_n 0, 1) := by decide +kernel
theorem dX5_read_107 : decode cX5_read 107 = .ok (.getfield 32, 3) := by decide +kernel
theorem dX5_read_110 : decode cX5_read 110 = .ok (.if_icmp .lt 6, 3) := by decide +kernel
theorem dX5_read_113 : decode cX5_read 113 = .ok (.goto 19, 3) := by decide +kernel
theorem dX5_read_116 : decode cX5_read 116 = .ok (.aload_n 0, 1) := by decide +kernel
theorem dX5_read_117 : decode cX5_read 117 = .ok (.dup, 1) := by decide +kernel
theorem dX5_read_118 : decode cX5_read 118 = .ok (.getfield 40, 3) := by decide +kernel
theorem dX5_read_121 : decode cX5_read 121 = .ok (.iconst 1, 1) := by decide +kernel
theorem dX5_read_122 : decode cX5_read 122 = .ok (.iadd, 1) := by decide +kernel
theorem dX5_read_123 : decode cX5_read 123 = .ok (.putfield 40, 3) := by decide +kernel
theorem dX5_read_126 : decode cX5_read 126 = .ok (.iinc 3 1, 3) := by decide +kernel
theorem dX5_read_129 : decode cX5_read 129 = .ok (.goto (-76), 3) := by decide +kernel
theorem dX5_read_132 : decode cX5_read 132 = .ok (.aload_n 0, 1) := by decide +kernel
theorem dX5_read_133 : decode cX5_read 133 = .ok (.getfield 15, 3) := by decide +kernel
theorem dX5_read_136 : decode cX5_read 136 = .ok (.iconst 0, 1) := by decide +kernel
theorem dX5_read_137 : decode cX5_read 137 = .ok (.aload_n 0, 1) := by decide +kernel
theorem dX5_read_138 : decode cX5_read 138 = .ok (.getfield 19, 3) := by decide +kernel
theorem dX5_read_141 : decode cX5_read 141 = .ok (.getfield 56, 3) := by decide +kernel
theorem dX5_read_144 : decode cX5_read 144 = .ok (.iconst 0, 1) := by decide +kernel
theorem dX5_read_145 : decode cX5_read 145 = .ok (.aload_n 0, 1) := by decide +kernel
theorem dX5_read_146 : decode cX5_read 146 = .ok (.getfield 32, 3) := by decide +kernel
theorem dX5_read_149 : decode cX5_read 149 = .ok (.invokestatic 59, 3) := by decide +kernel
theorem dX5_read_152 : decode cX5_read 152 = .ok (.aload_n 0, 1) := by decide +kernel
theorem dX5_read_153 : decode cX5_read 153 = .ok (.getfield 19, 3) := by decide +kernel
theorem dX5_read_156 : decode cX5_read 156 = .ok (.invokevirtual 65, 3) := by decide +kernel
theorem dX5_read_159 : decode cX5_read 159 = .ok (.iconst 1, 1) := by decide +kernel
theorem dX5_read_160 : decode cX5_read 160 = .ok (.ireturn, 1) := by decide +kernel
theorem dX5_readWeight_0 : decode cX5_readWeight 0 = .ok (.aload_n 0, 1) := by decide +kernel
theorem dX5_readWeight_1 : decode cX5_readWeight 1 = .ok (.getfield 40, 3) := by decide +kernel
theorem dX5_readWeight_4 : decode cX5_readWeight 4 = .ok (.istore_n 1, 1) := by decide +kernel
theorem dX5_readWeight_5 : decode cX5_readWeight 5 = .ok (.iconst 0, 1) := by decide +kernel
theorem dX5_readWeight_6 : decode cX5_readWeight 6 = .ok (.istore_n 2, 1) := by decide +kernel
theorem dX5_readWeight_7 : decode cX5_readWeight 7 = .ok (.aload_n 0, 1) := by decide +kernel
theorem dX5_readWeight_8 : decode cX5_readWeight 8 = .ok (.getfield 40, 3) := by decide +kernel
theorem dX5_readWeight_11 : decode cX5_readWeight 11 = .ok (.aload_n 0, 1) := by decide +kernel
theorem dX5_readWeight_12 : decode cX5_readWeight 12 = .ok (.getfield 32, 3) := by decide +kernel
theorem dX5_readWeight_15 : decode cX5_readWeight 15 = .ok (.if_icmp .ge 45, 3) := by decide +kernel
theorem dX5_readWeight_18 : decode cX5_readWeight 18 = .ok (.aload_n 0, 1) := by decide +kernel
theorem dX5_readWeight_19 : decode cX5_readWeight 19 = .ok (.invokevirtual 68, 3) := by decide +kernel
theorem dX5_readWeight_22 : decode cX5_readWeight 22 = .ok (.invokestatic 72, 3) := by decide +kernel
theorem dX5_readWeight_25 : decode cX5_readWeight 25 = .ok (.iconst 1, 1) := by decide +kernel
theorem dX5_readWeight_26 : decode cX5_readWeight 26 = .ok (.if_icmp .ne 34, 3) := by decide +kernel
theorem dX5_readWeight_29 : decode cX5_readWeight 29 = .ok (.bipush 100, 2) := by decide +kernel
theorem dX5_readWeight_31 : decode cX5_readWeight 31 = .ok (.iload_n 2, 1) := by decide +kernel
theorem dX5_readWeight_32 : decode cX5_readWeight 32 = .ok (.bipush 10, 2) := by decide +kernel
theorem dX5_readWeight_34 : decode cX5_readWeight 34 = .ok (.imul, 1) := by decide +kernel
theorem dX5_readWeight_35 : decode cX5_readWeight 35 = .ok (.aload_n 0, 1) := by decide +kernel
theorem dX5_readWeight_36 : decode cX5_readWeight 36 = .ok (.invokevirtual 68, 3) := by decide +kernel
theorem dX5_readWeight_39 : decode cX5_readWeight 39 = .ok (.iadd, 1) := by decide +kernel
theorem dX5_readWeight_40 : decode cX5_readWeight 40 = .ok (.bipush 48, 2) := by decide +kernel
theorem dX5_readWeight_42 : decode cX5_readWeight 42 = .ok (.isub, 1) := by decide +kernel
theorem dX5_readWeight_43 : decode cX5_readWeight 43 = .ok (.invokestatic 23, 3) := by decide +kernel
theorem dX5_readWeight_46 : decode cX5_readWeight 46 = .ok (.istore_n 2, 1) := by decide +kernel
theorem dX5_readWeight_47 : decode cX5_readWeight 47 = .ok (.aload_n 0, 1) := by decide +kernel
theorem dX5_readWeight_48 : decode cX5_readWeight 48 = .ok (.dup, 1) := by decide +kernel
theorem dX5_readWeight_49 : decode cX5_readWeight 49 = .ok (.getfield 40, 3) := by decide +kernel
theorem dX5_readWeight_52 : decode cX5_readWeight 52 = .ok (.iconst 1, 1) := by decide +kernel
theorem dX5_readWeight_53 : decode cX5_readWeight 53 = .ok (.iadd, 1) := by decide +kernel
theorem dX5_readWeight_54 : decode cX5_readWeight 54 = .ok (.putfield 40, 3) := by decide +kernel
theorem dX5_readWeight_57 : decode cX5_readWeight 57 = .ok (.goto (-50), 3) := by decide +kernel
theorem dX5_readWeight_60 : decode cX5_readWeight 60 = .ok (.aload_n 0, 1) := by decide +kernel
theorem dX5_readWeight_61 : decode cX5_readWeight 61 = .ok (.getfield 40, 3) := by decide +kernel
theorem dX5_readWeight_64 : decode cX5_readWeight 64 = .ok (.iload_n 1, 1) := by decide +kernel
theorem dX5_readWeight_65 : decode cX5_readWeight 65 = .ok (.if_icmp .ne 13, 3) := by decide +kernel
theorem dX5_readWeight_68 : decode cX5_readWeight 68 = .ok (.aload_n 0, 1) := by decide +kernel
theorem dX5_readWeight_69 : decode cX5_readWeight 69 = .ok (.iconst 1, 1) := by decide +kernel
theorem dX5_readWeight_70 : decode cX5_readWeight 70 = .ok (.aload_n 0, 1) := by decide +kernel
theorem dX5_readWeight_71 : decode cX5_readWeight 71 = .ok (.getfield 40, 3) := by decide +kernel
theorem dX5_readWeight_74 : decode cX5_readWeight 74 = .ok (.invokevirtual 76, 3) := by decide +kernel
theorem dX5_readWeight_77 : decode cX5_readWeight 77 = .ok (.ireturn, 1) := by decide +kernel
theorem dX5_readWeight_78 : decode cX5_readWeight 78 = .ok (.iload_n 2, 1) := by decide +kernel
theorem dX5_readWeight_79 : decode cX5_readWeight 79 = .ok (.iconst 1, 1) := by decide +kernel
theorem dX5_readWeight_80 : decode cX5_readWeight 80 = .ok (.if_icmp .lt 9, 3) := by decide +kernel
theorem dX5_readWeight_83 : decode cX5_readWeight 83 = .ok (.iload_n 2, 1) := by decide +kernel
theorem dX5_readWeight_84 : decode cX5_readWeight 84 = .ok (.bipush 99, 2) := by decide +kernel
theorem dX5_readWeight_86 : decode cX5_readWeight 86 = .ok (.if_icmp .le 10, 3) := by decide +kernel
theorem dX5_readWeight_89 : decode cX5_readWeight 89 = .ok (.aload_n 0, 1) := by decide +kernel
theorem dX5_readWeight_90 : decode cX5_readWeight 90 = .ok (.iconst 2, 1) := by decide +kernel
theorem dX5_readWeight_91 : decode cX5_readWeight 91 = .ok (.iload_n 1, 1) := by decide +kernel
theorem dX5_readWeight_92 : decode cX5_readWeight 92 = .ok (.invokevirtual 76, 3) := by decide +kernel
theorem dX5_readWeight_95 : decode cX5_readWeight 95 = .ok (.ireturn, 1) := by decide +kernel
theorem dX5_readWeight_96 : decode cX5_readWeight 96 = .ok (.aload_n 0, 1) := by decide +kernel
theorem dX5_readWeight_97 : decode cX5_readWeight 97 = .ok (.getfield 19, 3) := by decide +kernel
theorem dX5_readWeight_100 : decode cX5_readWeight 100 = .ok (.getfield 35, 3) := by decide +kernel
theorem dX5_readWeight_103 : decode cX5_readWeight 103 = .ok (.bipush 6, 2) := by decide +kernel
theorem dX5_readWeight_105 : decode cX5_readWeight 105 = .ok (.if_icmp .lt 10, 3) := by decide +kernel
theorem dX5_readWeight_108 : decode cX5_readWeight 108 = .ok (.aload_n 0, 1) := by decide +kernel
theorem dX5_readWeight_109 : decode cX5_readWeight 109 = .ok (.iconst 3, 1) := by decide +kernel
theorem dX5_readWeight_110 : decode cX5_readWeight 110 = .ok (.iload_n 1, 1) := by decide +kernel
theorem dX5_readWeight_111 : decode cX5_readWeight 111 = .ok (.invokevirtual 76, 3) := by decide +kernel
theorem dX5_readWeight_114 : decode cX5_readWeight 114 = .ok (.ireturn, 1) := by decide +kernel
theorem dX5_readWeight_115 : decode cX5_readWeight 115 = .ok (.aload_n 0, 1) := by decide +kernel
theorem dX5_readWeight_116 : decode cX5_readWeight 116 = .ok (.invokevirtual 68, 3) := by decide +kernel
theorem dX5_readWeight_119 : decode cX5_readWeight 119 = .ok (.bipush 58, 2) := by decide +kernel
theorem dX5_readWeight_121 : decode cX5_readWeight 121 = .ok (.if_icmp .eq 13, 3) := by decide +kernel
theorem dX5_readWeight_124 : decode cX5_readWeight 124 = .ok (.aload_n 0, 1) := by decide +kernel
theorem dX5_readWeight_125 : decode cX5_readWeight 125 = .ok (.iconst 1, 1) := by decide +kernel
theorem dX5_readWeight_126 : decode cX5_readWeight 126 = .ok (.aload_n 0, 1) := by decide +kernel
theorem dX5_readWeight_127 : decode cX5_readWeight 127 = .ok (.getfield 40, 3) := by decide +kernel
theorem dX5_readWeight_130 : decode cX5_readWeight 130 = .ok (.invokevirtual 76, 3) := by decide +kernel
theorem dX5_readWeight_133 : decode cX5_readWeight 133 = .ok (.ireturn, 1) := by decide +kernel
theorem dX5_readWeight_134 : decode cX5_readWeight 134 = .ok (.aload_n 0, 1) := by decide +kernel
theorem dX5_readWeight_135 : decode cX5_readWeight 135 = .ok (.dup, 1) := by decide +kernel
theorem dX5_readWeight_136 : decode cX5_readWeight 136 = .ok (.getfield 40, 3) := by decide +kernel
theorem dX5_readWeight_139 : decode cX5_readWeight 139 = .ok (.iconst 1, 1) := by decide +kernel
theorem dX5_readWeight_140 : decode cX5_readWeight 140 = .ok (.iadd, 1) := by decide +kernel
theorem dX5_readWeight_141 : decode cX5_readWeight 141 = .ok (.putfield 40, 3) := by decide +kernel
theorem dX5_readWeight_144 : decode cX5_readWeight 144 = .ok (.aload_n 0, 1) := by decide +kernel
theorem dX5_readWeight_145 : decode cX5_readWeight 145 = .ok (.getfield 19, 3) := by decide +kernel
theorem dX5_readWeight_148 : decode cX5_readWeight 148 = .ok (.getfield 80, 3) := by decide +kernel
theorem dX5_readWeight_151 : decode cX5_readWeight 151 = .ok (.aload_n 0, 1) := by decide +kernel
theorem dX5_readWeight_152 : decode cX5_readWeight 152 = .ok (.getfield 19, 3) := by decide +kernel
theorem dX5_readWeight_155 : decode cX5_readWeight 155 = .ok (.getfield 35, 3) := by decide +kernel
theorem dX5_readWeight_158 : decode cX5_readWeight 158 = .ok (.iload_n 2, 1) := by decide +kernel
theorem dX5_readWeight_159 : decode cX5_readWeight 159 = .ok (.iastore, 1) := by decide +kernel
theorem dX5_readWeight_160 : decode cX5_readWeight 160 = .ok (.aload_n 0, 1) := by decide +kernel
theorem dX5_readWeight_161 : decode cX5_readWeight 161 = .ok (.getfield 19, 3) := by decide +kernel
theorem dX5_readWeight_164 : decode cX5_readWeight 164 = .ok (.getfield 84, 3) := by decide +kernel
theorem dX5_readWeight_167 : decode cX5_readWeight 167 = .ok (.aload_n 0, 1) := by decide +kernel
theorem dX5_readWeight_168 : decode cX5_readWeight 168 = .ok (.getfield 19, 3) := by decide +kernel
theorem dX5_readWeight_171 : decode cX5_readWeight 171 = .ok (.getfield 35, 3) := by decide +kernel
theorem dX5_readWeight_174 : decode cX5_readWeight 174 = .ok (.iconst 0, 1) := by decide +kernel
theorem dX5_readWeight_175 : decode cX5_readWeight 175 = .ok (.iastore, 1) := by decide +kernel
theorem dX5_readWeight_176 : decode cX5_readWeight 176 = .ok (.aload_n 0, 1) := by decide +kernel
theorem dX5_readWeight_177 : decode cX5_readWeight 177 = .ok (.getfield 19, 3) := by decide +kernel
theorem dX5_readWeight_180 : decode cX5_readWeight 180 = .ok (.getfield 87, 3) := by decide +kernel
theorem dX5_readWeight_183 : decode cX5_readWeight 183 = .ok (.aload_n 0, 1) := by decide +kernel
theorem dX5_readWeight_184 : decode cX5_readWeight 184 = .ok (.getfield 19, 3) := by decide +kernel
theorem dX5_readWeight_187 : decode cX5_readWeight 187 = .ok (.getfield 35, 3) := by decide +kernel
theorem dX5_readWeight_190 : decode cX5_readWeight 190 = .ok (.iconst 0, 1) := by decide +kernel
theorem dX5_readWeight_191 : decode cX5_readWeight 191 = .ok (.iastore, 1) := by decide +kernel
theorem dX5_readWeight_192 : decode cX5_readWeight 192 = .ok (.iconst 1, 1) := by decide +kernel
theorem dX5_readWeight_193 : decode cX5_readWeight 193 = .ok (.ireturn, 1) := by decide +kernel
theorem dX5_readElements_0 : decode cX5_readElements 0 = .ok (.iconst 0, 1) := by decide +kernel
theorem dX5_readElements_1 : decode cX5_readElements 1 = .ok (.istore_n 1, 1) := by decide +kernel
theorem dX5_readElements_2 : decode cX5_readElements 2 = .ok (.iload_n 1, 1) := by decide +kernel
theorem dX5_readElements_3 : decode cX5_readElements 3 = .ok (.bipush 6, 2) := by decide +kernel
theorem dX5_readElements_5 : decode cX5_readElements 5 = .ok (.if_icmp .gt 91, 3) := by decide +kernel
theorem dX5_readElements_8 : decode cX5_readElements 8 = .ok (.aload_n 0, 1) := by decide +kernel
theorem dX5_readElements_9 : decode cX5_readElements 9 = .ok (.invokevirtual 68, 3) := by decide +kernel
theorem dX5_readElements_12 : decode cX5_readElements 12 = .ok (.istore_n 2, 1) := by decide +kernel
theorem dX5_readElements_13 : decode cX5_readElements 13 = .ok (.iload_n 2, 1) := by decide +kernel
theorem dX5_readElements_14 : decode cX5_readElements 14 = .ok (.bipush 62, 2) := by decide +kernel
theorem dX5_readElements_16 : decode cX5_readElements 16 = .ok (.if_icmp .ne 19, 3) := by decide +kernel
theorem dX5_readElements_19 : decode cX5_readElements 19 = .ok (.iload_n 1, 1) := by decide +kernel
theorem dX5_readElements_20 : decode cX5_readElements 20 = .ok (.ifCond .le 15, 3) := by decide +kernel
theorem dX5_readElements_23 : decode cX5_readElements 23 = .ok (.aload_n 0, 1) := by decide +kernel
theorem dX5_readElements_24 : decode cX5_readElements 24 = .ok (.dup, 1) := by decide +kernel
theorem dX5_readElements_25 : decode cX5_readElements 25 = .ok (.getfield 40, 3) := by decide +kernel
theorem dX5_readElements_28 : decode cX5_readElements 28 = .ok (.iconst 1, 1) := by decide +kernel
theorem dX5_readElements_29 : decode cX5_readElements 29 = .ok (.iadd, 1) := by decide +kernel
theorem dX5_readElements_30 : decode cX5_readElements 30 = .ok (.putfield 40, 3) := by decide +kernel
theorem dX5_readElements_33 : decode cX5_readElements 33 = .ok (.iconst 1, 1) := by decide +kernel
theorem dX5_readElements_34 : decode cX5_readElements 34 = .ok (.ireturn, 1) := by decide +kernel
theorem dX5_readElements_35 : decode cX5_readElements 35 = .ok (.iload_n 2, 1) := by decide +kernel
theorem dX5_readElements_36 : decode cX5_readElements 36 = .ok (.invokestatic 90, 3) := by decide +kernel
theorem dX5_readElements_39 : decode cX5_readElements 39 = .ok (.ifCond .ne 25, 3) := by decide +kernel
theorem dX5_readElements_42 : decode cX5_readElements 42 = .ok (.iload_n 2, 1) := by decide +kernel
theorem dX5_readElements_43 : decode cX5_readElements 43 = .ok (.bipush 95, 2) := by decide +kernel
theorem dX5_readElements_45 : decode cX5_readElements 45 = .ok (.if_icmp .eq 19, 3) := by decide +kernel
theorem dX5_readElements_48 : decode cX5_readElements 48 = .ok (.iload_n 2, 1) := by decide +kernel
theorem dX5_readElements_49 : decode cX5_readElements 49 = .ok (.bipush 39, 2) := by decide +kernel
theorem dX5_readElements_51 : decode cX5_readElements 51 = .ok (.if_icmp .eq 13, 3) := by decide +kernel
theorem dX5_readElements_54 : decode cX5_readElements 54 = .ok (.aload_n 0, 1) := by decide +kernel
theorem dX5_readElements_55 : decode cX5_readElements 55 = .ok (.iconst 1, 1) := by decide +kernel
theorem dX5_readElements_56 : decode cX5_readElements 56 = .ok (.aload_n 0, 1) := by decide +kernel
theorem dX5_readElements_57 : decode cX5_readElements 57 = .ok (.getfield 40, 3) := by decide +kernel
theorem dX5_readElements_60 : decode cX5_readElements 60 = .ok (.invokevirtual 76, 3) := by decide +kernel
theorem dX5_readElements_63 : decode cX5_readElements 63 = .ok (.ireturn, 1) := by decide +kernel
theorem dX5_readElements_64 : decode cX5_readElements 64 = .ok (.iload_n 1, 1) := by decide +kernel
theorem dX5_readElements_65 : decode cX5_readElements 65 = .ok (.bipush 6, 2) := by decide +kernel
theorem dX5_readElements_67 : decode cX5_readElements 67 = .ok (.if_icmp .ne 13, 3) := by decide +kernel
theorem dX5_readElements_70 : decode cX5_readElements 70 = .ok (.aload_n 0, 1) := by decide +kernel
theorem dX5_readElements_71 : decode cX5_readElements 71 = .ok (.iconst 4, 1) := by decide +kernel
theorem dX5_readElements_72 : decode cX5_readElements 72 = .ok (.aload_n 0, 1) := by decide +kernel
theorem dX5_readElements_73 : decode cX5_readElements 73 = .ok (.getfield 40, 3) := by decide +kernel
theorem dX5_readElements_76 : decode cX5_readElements 76 = .ok (.invokevirtual 76, 3) := by decide +kernel
theorem dX5_readElements_79 : decode cX5_readElements 79 = .ok (.ireturn, 1) := by decide +kernel
theorem dX5_readElements_80 : decode cX5_readElements 80 = .ok (.aload_n 0, 1) := by decide +kernel
theorem dX5_readElements_81 : decode cX5_readElements 81 = .ok (.iload_n 2, 1) := by decide +kernel
theorem dX5_readElements_82 : decode cX5_readElements 82 = .ok (.invokevirtual 94, 3) := by decide +kernel
theorem dX5_readElements_85 : decode cX5_readElements 85 = .ok (.ifCond .ne 5, 3) := by decide +kernel
theorem dX5_readElements_88 : decode cX5_readElements 88 = .ok (.iconst 0, 1) := by decide +kernel
theorem dX5_readElements_89 : decode cX5_readElements 89 = .ok (.ireturn, 1) := by decide +kernel
theorem dX5_readElements_90 : decode cX5_readElements 90 = .ok (.iinc 1 1, 3) := by decide +kernel
theorem dX5_readElements_93 : decode cX5_readElements 93 = .ok (.goto (-91), 3) := by decide +kernel
theorem dX5_readElements_96 : decode cX5_readElements 96 = .ok (.iconst 0, 1) := by decide +kernel
theorem dX5_readElements_97 : decode cX5_readElements 97 = .ok (.ireturn, 1) := by decide +kernel
theorem dX5_readElement_0 : decode cX5_readElement 0 = .ok (.aload_n 0, 1) := by decide +kernel
theorem dX5_readElement_1 : decode cX5_readElement 1 = .ok (.getfield 19, 3) := by decide +kernel
theorem dX5_readElement_4 : decode cX5_readElement 4 = .ok (.getfield 84, 3) := by decide +kernel
theorem dX5_readElement_7 : decode cX5_readElement 7 = .ok (.aload_n 0, 1) := by decide +kernel
theorem dX5_readElement_8 : decode cX5_readElement 8 = .ok (.getfield 19, 3) := by decide +kernel
theorem dX5_readElement_11 : decode cX5_readElement 11 = .ok (.getfield 35, 3) := by decide +kernel
theorem dX5_readElement_14 : decode cX5_readElement 14 = .ok (.iaload, 1) := by decide +kernel
theorem dX5_readElement_15 : decode cX5_readElement 15 = .ok (.istore_n 2, 1) := by decide +kernel
theorem dX5_readElement_16 : decode cX5_readElement 16 = .ok (.aload_n 0, 1) := by decide +kernel
theorem dX5_readElement_17 : decode cX5_readElement 17 = .ok (.getfield 19, 3) := by decide +kernel
theorem dX5_readElement_20 : decode cX5_readElement 20 = .ok (.getfield 35, 3) := by decide +kernel
theorem dX5_readElement_23 : decode cX5_readElement 23 = .ok (.bipush 6, 2) := by decide +kernel
theorem dX5_readElement_25 : decode cX5_readElement 25 = .ok (.imul, 1) := by decide +kernel
theorem dX5_readElement_26 : decode cX5_readElement 26 = .ok (.iload_n 2, 1) := by decide +kernel
theorem dX5_readElement_27 : decode cX5_readElement 27 = .ok (.iadd, 1) := by decide +kernel
theorem dX5_readElement_28 : decode cX5_readElement 28 = .ok (.istore_n 3, 1) := by decide +kernel
theorem dX5_readElement_29 : decode cX5_readElement 29 = .ok (.aload_n 0, 1) := by decide +kernel
theorem dX5_readElement_30 : decode cX5_readElement 30 = .ok (.getfield 40, 3) := by decide +kernel
theorem dX5_readElement_33 : decode cX5_readElement 33 = .ok (.istore 4, 2) := by decide +kernel
theorem dX5_readElement_35 : decode cX5_readElement 35 = .ok (.iconst (-1), 1) := by decide +kernel
theorem dX5_readElement_36 : decode cX5_readElement 36 = .ok (.istore 5, 2) := by decide +kernel
theorem dX5_readElement_38 : decode cX5_readElement 38 = .ok (.iload_n 2, 1) := by decide +kernel
theorem dX5_readElement_39 : decode cX5_readElement 39 = .ok (.istore 6, 2) := by decide +kernel
theorem dX5_readElement_41 : decode cX5_readElement 41 = .ok (.iconst 2, 1) := by decide +kernel
theorem dX5_readElement_42 : decode cX5_readElement 42 = .ok (.istore 7, 2) := by decide +kernel
theorem dX5_readElement_44 : decode cX5_readElement 44 = .ok (.iload_n 1, 1) := by decide +kernel
theorem dX5_readElement_45 : decode cX5_readElement 45 = .ok (.bipush 39, 2) := by decide +kernel
theorem dX5_readElement_47 : decode cX5_readElement 47 = .ok (.if_icmp .ne 50, 3) := by decide +kernel
theorem dX5_readElement_50 : decode cX5_readElement 50 = .ok (.aload_n 0, 1) := by decide +kernel
theorem dX5_readElement_51 : decode cX5_readElement 51 = .ok (.invokevirtual 97, 3) := by decide +kernel
theorem dX5_readElement_54 : decode cX5_readElement 54 = .ok (.ifCond .ne 5, 3) := by decide +kernel
theorem dX5_readElement_57 : decode cX5_readElement 57 = .ok (.iconst 0, 1) := by decide +kernel
theorem dX5_readElement_58 : decode cX5_readElement 58 = .ok (.ireturn, 1) := by decide +kernel
theorem dX5_readElement_59 : decode cX5_readElement 59 = .ok (.aload_n 0, 1) := by decide +kernel
theorem dX5_readElement_60 : decode cX5_readElement 60 = .ok (.iload 4, 2) := by decide +kernel
theorem dX5_readElement_62 : decode cX5_readElement 62 = .ok (.iconst 1, 1) := by decide +kernel
theorem dX5_readElement_63 : decode cX5_readElement 63 = .ok (.iadd, 1) := by decide +kernel
theorem dX5_readElement_64 : decode cX5_readElement 64 = .ok (.aload_n 0, 1) := by decide +kernel
theorem dX5_readElement_65 : decode cX5_readElement 65 = .ok (.getfield 40, 3) := by decide +kernel
theorem dX5_readElement_68 : decode cX5_readElement 68 = .ok (.iconst 1, 1) := by decide +kernel
theorem dX5_readElement_69 : decode cX5_readElement 69 = .ok (.isub, 1) := by decide +kernel
theorem dX5_readElement_70 : decode cX5_readElement 70 = .ok (.invokevirtual 100, 3) := by decide +kernel
theorem dX5_readElement_73 : decode cX5_readElement 73 = .ok (.ifCond .ne 12, 3) := by decide +kernel
theorem dX5_readElement_76 : decode cX5_readElement 76 = .ok (.aload_n 0, 1) := by decide +kernel
theorem dX5_readElement_77 : decode cX5_readElement 77 = .ok (.bipush 6, 2) := by decide +kernel
theorem dX5_readElement_79 : decode cX5_readElement 79 = .ok (.iload 4, 2) := by decide +kernel
theorem dX5_readElement_81 : decode cX5_readElement 81 = .ok (.invokevirtual 76, 3) := by decide +kernel
theorem dX5_readElement_84 : decode cX5_readElement 84 = .ok (.ireturn, 1) := by decide +kernel
theorem dX5_readElement_85 : decode cX5_readElement 85 = .ok (.iconst 4, 1) := by decide +kernel
theorem dX5_readElement_86 : decode cX5_readElement 86 = .ok (.istore 7, 2) := by decide +kernel
theorem dX5_readElement_88 : decode cX5_readElement 88 = .ok (.iload 4, 2) := by decide +kernel
theorem dX5_readElement_90 : decode cX5_readElement 90 = .ok (.iconst 1, 1) := by decide +kernel
theorem dX5_readElement_91 : decode cX5_readElement 91 = .ok (.iadd, 1) := by decide +kernel
theorem dX5_readElement_92 : decode cX5_readElement 92 = .ok (.istore 6, 2) := by decide +kernel
theorem dX5_readElement_94 : decode cX5_readElement 94 = .ok (.goto 74, 3) := by decide +kernel
theorem dX5_readElement_97 : decode cX5_readElement 97 = .ok (.iload_n 1, 1) := by decide +kernel
theorem dX5_readElement_98 : decode cX5_readElement 98 = .ok (.bipush 95, 2) := by decide +kernel
theorem dX5_readElement_100 : decode cX5_readElement 100 = .ok (.if_icmp .ne 16, 3) := by decide +kernel
theorem dX5_readElement_103 : decode cX5_readElement 103 = .ok (.aload_n 0, 1) := by decide +kernel
theorem dX5_readElement_104 : decode cX5_readElement 104 = .ok (.dup, 1) := by decide +kernel
theorem dX5_readElement_105 : decode cX5_readElement 105 = .ok (.getfield 40, 3) := by decide +kernel
theorem dX5_readElement_108 : decode cX5_readElement 108 = .ok (.iconst 1, 1) := by decide +kernel
theorem dX5_readElement_109 : decode cX5_readElement 109 = .ok (.iadd, 1) := by decide +kernel
theorem dX5_readElement_110 : decode cX5_readElement 110 = .ok (.putfield 40, 3) := by decide +kernel
theorem dX5_readElement_113 : decode cX5_readElement 113 = .ok (.goto 55, 3) := by decide +kernel
theorem dX5_readElement_116 : decode cX5_readElement 116 = .ok (.aload_n 0, 1) := by decide +kernel
theorem dX5_readElement_117 : decode cX5_readElement 117 = .ok (.invokevirtual 103, 3) := by decide +kernel
theorem dX5_readElement_120 : decode cX5_readElement 120 = .ok (.istore 5, 2) := by decide +kernel
theorem dX5_readElement_122 : decode cX5_readElement 122 = .ok (.iload 5, 2) := by decide +kernel
theorem dX5_readElement_124 : decode cX5_readElement 124 = .ok (.iconst (-1), 1) := by decide +kernel
theorem dX5_readElement_125 : decode cX5_readElement 125 = .ok (.if_icmp .ne 5, 3) := by decide +kernel
theorem dX5_readElement_128 : decode cX5_readElement 128 = .ok (.iconst 0, 1) := by decide +kernel
theorem dX5_readElement_129 : decode cX5_readElement 129 = .ok (.ireturn, 1) := by decide +kernel
theorem dX5_readElement_130 : decode cX5_readElement 130 = .ok (.iload_n 1, 1) := by decide +kernel
theorem dX5_readElement_131 : decode cX5_readElement 131 = .ok (.invokestatic 106, 3) := by decide +kernel
theorem dX5_readElement_134 : decode cX5_readElement 134 = .ok (.istore 7, 2) := by decide +kernel
theorem dX5_readElement_136 : decode cX5_readElement 136 = .ok (.aload_n 0, 1) := by decide +kernel
theorem dX5_readElement_137 : decode cX5_readElement 137 = .ok (.getfield 19, 3) := by decide +kernel
theorem dX5_readElement_140 : decode cX5_readElement 140 = .ok (.aload_n 0, 1) := by decide +kernel
theorem dX5_readElement_141 : decode cX5_readElement 141 = .ok (.getfield 19, 3) := by decide +kernel
theorem dX5_readElement_144 : decode cX5_readElement 144 = .ok (.getfield 35, 3) := by decide +kernel
theorem dX5_readElement_147 : decode cX5_readElement 147 = .ok (.iload 5, 2) := by decide +kernel
theorem dX5_readElement_149 : decode cX5_readElement 149 = .ok (.invokevirtual 109, 3) := by decide +kernel
theorem dX5_readElement_152 : decode cX5_readElement 152 = .ok (.istore 8, 2) := by decide +kernel
theorem dX5_readElement_154 : decode cX5_readElement 154 = .ok (.iload 8, 2) := by decide +kernel
theorem dX5_readElement_156 : decode cX5_readElement 156 = .ok (.iconst (-1), 1) := by decide +kernel
theorem dX5_readElement_157 : decode cX5_readElement 157 = .ok (.if_icmp .ne 7, 3) := by decide +kernel
theorem dX5_readElement_160 : decode cX5_readElement 160 = .ok (.iload_n 2, 1) := by decide +kernel
theorem dX5_readElement_161 : decode cX5_readElement 161 = .ok (.goto 5, 3) := by decide +kernel
theorem dX5_readElement_164 : decode cX5_readElement 164 = .ok (.iload 8, 2) := by decide +kernel
theorem dX5_readElement_166 : decode cX5_readElement 166 = .ok (.istore 6, 2) := by decide +kernel
theorem dX5_readElement_168 : decode cX5_readElement 168 = .ok (.aload_n 0, 1) := by decide +kernel
theorem dX5_readElement_169 : decode cX5_readElement 169 = .ok (.getfield 19, 3) := by decide +kernel
theorem dX5_readElement_172 : decode cX5_readElement 172 = .ok (.getfield 112, 3) := by decide +kernel
theorem dX5_readElement_175 : decode cX5_readElement 175 = .ok (.iload_n 3, 1) := by decide +kernel
theorem dX5_readElement_176 : decode cX5_readElement 176 = .ok (.iload 7, 2) := by decide +kernel
theorem dX5_readElement_178 : decode cX5_readElement 178 = .ok (.iastore, 1) := by decide +kernel
theorem dX5_readElement_179 : decode cX5_readElement 179 = .ok (.aload_n 0, 1) := by decide +kernel
theorem dX5_readElement_180 : decode cX5_readElement 180 = .ok (.getfield 19, 3) := by decide +kernel
theorem dX5_readElement_183 : decode cX5_readElement 183 = .ok (.getfield 115, 3) := by decide +kernel
theorem dX5_readElement_186 : decode cX5_readElement 186 = .ok (.iload_n 3, 1) := by decide +kernel
theorem dX5_readElement_187 : decode cX5_readElement 187 = .ok (.iload 5, 2) := by decide +kernel
theorem dX5_readElement_189 : decode cX5_readElement 189 = .ok (.iastore, 1) := by decide +kernel
theorem dX5_readElement_190 : decode cX5_readElement 190 = .ok (.aload_n 0, 1) := by decide +kernel
theorem dX5_readElement_191 : decode cX5_readElement 191 = .ok (.getfield 19, 3) := by decide +kernel
theorem dX5_readElement_194 : decode cX5_readElement 194 = .ok (.getfield 118, 3) := by decide +kernel
theorem dX5_readElement_197 : decode cX5_readElement 197 = .ok (.iload_n 3, 1) := by decide +kernel
theorem dX5_readElement_198 : decode cX5_readElement 198 = .ok (.iload 6, 2) := by decide +kernel
theorem dX5_readElement_200 : decode cX5_readElement 200 = .ok (.iastore, 1) := by decide +kernel
theorem dX5_readElement_201 : decode cX5_readElement 201 = .ok (.aload_n 0, 1) := by decide +kernel
theorem dX5_readElement_202 : decode cX5_readElement 202 = .ok (.getfield 19, 3) := by decide +kernel
theorem dX5_readElement_205 : decode cX5_readElement 205 = .ok (.getfield 121, 3) := by decide +kernel
theorem dX5_readElement_208 : decode cX5_readElement 208 = .ok (.iload_n 3, 1) := by decide +kernel
theorem dX5_readElement_209 : decode cX5_readElement 209 = .ok (.aload_n 0, 1) := by decide +kernel
theorem dX5_readElement_210 : decode cX5_readElement 210 = .ok (.getfield 40, 3) := by decide +kernel
theorem dX5_readElement_213 : decode cX5_readElement 213 = .ok (.iconst 1, 1) := by decide +kernel
theorem dX5_readElement_214 : decode cX5_readElement 214 = .ok (.isub, 1) := by decide +kernel
theorem dX5_readElement_215 : decode cX5_readElement 215 = .ok (.iastore, 1) := by decide +kernel
theorem dX5_readElement_216 : decode cX5_readElement 216 = .ok (.aload_n 0, 1) := by decide +kernel
theorem dX5_readElement_217 : decode cX5_readElement 217 = .ok (.getfield 19, 3) := by decide +kernel
theorem dX5_readElement_220 : decode cX5_readElement 220 = .ok (.getfield 84, 3) := by decide +kernel
theorem dX5_readElement_223 : decode cX5_readElement 223 = .ok (.aload_n 0, 1) := by decide +kernel
theorem dX5_readElement_224 : decode cX5_readElement 224 = .ok (.getfield 19, 3) := by decide +kernel
theorem dX5_readElement_227 : decode cX5_readElement 227 = .ok (.getfield 35, 3) := by decide +kernel
theorem dX5_readElement_230 : decode cX5_readElement 230 = .ok (.iload_n 2, 1) := by decide +kernel
theorem dX5_readElement_231 : decode cX5_readElement 231 = .ok (.iconst 1, 1) := by decide +kernel
theorem dX5_readElement_232 : decode cX5_readElement 232 = .ok (.iadd, 1) := by decide +kernel
theorem dX5_readElement_233 : decode cX5_readElement 233 = .ok (.iastore, 1) := by decide +kernel
theorem dX5_readElement_234 : decode cX5_readElement 234 = .ok (.iconst 1, 1) := by decide +kernel
theorem dX5_readElement_235 : decode cX5_readElement 235 = .ok (.ireturn, 1) := by decide +kernel
theorem dX5_readParts_0 : decode cX5_readParts 0 = .ok (.iconst 0, 1) := by decide +kernel
theorem dX5_readParts_1 : decode cX5_readParts 1 = .ok (.istore_n 1, 1) := by decide +kernel
theorem dX5_readParts_2 : decode cX5_readParts 2 = .ok (.iload_n 1, 1) := by decide +kernel
theorem dX5_readParts_3 : decode cX5_readParts 3 = .ok (.bipush 6, 2) := by decide +kernel
theorem dX5_readParts_5 : decode cX5_readParts 5 = .ok (.if_icmp .gt 94, 3) := by decide +kernel
theorem dX5_readParts_8 : decode cX5_readParts 8 = .ok (.aload_n 0, 1) := by decide +kernel
theorem dX5_readParts_9 : decode cX5_readParts 9 = .ok (.invokevirtual 68, 3) := by decide +kernel
theorem dX5_readParts_12 : decode cX5_readParts 12 = .ok (.istore_n 2, 1) := by decide +kernel
theorem dX5_readParts_13 : decode cX5_readParts 13 = .ok (.iload_n 2, 1) := by decide +kernel
theorem dX5_readParts_14 : decode cX5_readParts 14 = .ok (.iconst (-1), 1) := by decide +kernel
theorem dX5_readParts_15 : decode cX5_readParts 15 = .ok (.if_icmp .eq 9, 3) := by decide +kernel
theorem dX5_readParts_18 : decode cX5_readParts 18 = .ok (.iload_n 2, 1) := by decide +kernel
theorem dX5_readParts_19 : decode cX5_readParts 19 = .ok (.bipush 59, 2) := by decide +kernel
theorem dX5_readParts_21 : decode cX5_readParts 21 = .ok (.if_icmp .ne 5, 3) := by decide +kernel
theorem dX5_readParts_24 : decode cX5_readParts 24 = .ok (.iconst 1, 1) := by decide +kernel
theorem dX5_readParts_25 : decode cX5_readParts 25 = .ok (.ireturn, 1) := by decide +kernel
theorem dX5_readParts_26 : decode cX5_readParts 26 = .ok (.iload_n 2, 1) := by decide +kernel
theorem dX5_readParts_27 : decode cX5_readParts 27 = .ok (.invokestatic 90, 3) := by decide +kernel
theorem dX5_readParts_30 : decode cX5_readParts 30 = .ok (.ifCond .ne 37, 3) := by decide +kernel
theorem dX5_readParts_33 : decode cX5_readParts 33 = .ok (.iload_n 2, 1) := by decide +kernel
theorem dX5_readParts_34 : decode cX5_readParts 34 = .ok (.bipush 43, 2) := by decide +kernel
theorem dX5_readParts_36 : decode cX5_readParts 36 = .ok (.if_icmp .eq 31, 3) := by decide +kernel
theorem dX5_readParts_39 : decode cX5_readParts 39 = .ok (.iload_n 2, 1) := by decide +kernel
theorem dX5_readParts_40 : decode cX5_readParts 40 = .ok (.bipush 45, 2) := by decide +kernel
theorem dX5_readParts_42 : decode cX5_readParts 42 = .ok (.if_icmp .eq 25, 3) := by decide +kernel
theorem dX5_readParts_45 : decode cX5_readParts 45 = .ok (.iload_n 2, 1) := by decide +kernel
theorem dX5_readParts_46 : decode cX5_readParts 46 = .ok (.bipush 126, 2) := by decide +kernel
theorem dX5_readParts_48 : decode cX5_readParts 48 = .ok (.if_icmp .eq 19, 3) := by decide +kernel
theorem dX5_readParts_51 : decode cX5_readParts 51 = .ok (.iload_n 2, 1) := by decide +kernel
theorem dX5_readParts_52 : decode cX5_readParts 52 = .ok (.bipush 39, 2) := by decide +kernel
theorem dX5_readParts_54 : decode cX5_readParts 54 = .ok (.if_icmp .eq 13, 3) := by decide +kernel
theorem dX5_readParts_57 : decode cX5_readParts 57 = .ok (.aload_n 0, 1) := by decide +kernel
theorem dX5_readParts_58 : decode cX5_readParts 58 = .ok (.iconst 1, 1) := by decide +kernel
theorem dX5_readParts_59 : decode cX5_readParts 59 = .ok (.aload_n 0, 1) := by decide +kernel
theorem dX5_readParts_60 : decode cX5_readParts 60 = .ok (.getfield 40, 3) := by decide +kernel
theorem dX5_readParts_63 : decode cX5_readParts 63 = .ok (.invokevirtual 76, 3) := by decide +kernel
theorem dX5_readParts_66 : decode cX5_readParts 66 = .ok (.ireturn, 1) := by decide +kernel
theorem dX5_readParts_67 : decode cX5_readParts 67 = .ok (.iload_n 1, 1) := by decide +kernel
theorem dX5_readParts_68 : decode cX5_readParts 68 = .ok (.bipush 6, 2) := by decide +kernel
theorem dX5_readParts_70 : decode cX5_readParts 70 = .ok (.if_icmp .ne 13, 3) := by decide +kernel
theorem dX5_readParts_73 : decode cX5_readParts 73 = .ok (.aload_n 0, 1) := by decide +kernel
theorem dX5_readParts_74 : decode cX5_readParts 74 = .ok (.iconst 4, 1) := by decide +kernel
theorem dX5_readParts_75 : decode cX5_readParts 75 = .ok (.aload_n 0, 1) := by decide +kernel
theorem dX5_readParts_76 : decode cX5_readParts 76 = .ok (.getfield 40, 3) := by decide +kernel
theorem dX5_readParts_79 : decode cX5_readParts 79 = .ok (.invokevirtual 76, 3) := by decide +kernel
theorem dX5_readParts_82 : decode cX5_readParts 82 = .ok (.ireturn, 1) := by decide +kernel
theorem dX5_readParts_83 : decode cX5_readParts 83 = .ok (.aload_n 0, 1) := by decide +kernel
theorem dX5_readParts_84 : decode cX5_readParts 84 = .ok (.iload_n 2, 1) := by decide +kernel
theorem dX5_readParts_85 : decode cX5_readParts 85 = .ok (.invokevirtual 124, 3) := by decide +kernel
theorem dX5_readParts_88 : decode cX5_readParts 88 = .ok (.ifCond .ne 5, 3) := by decide +kernel
theorem dX5_readParts_91 : decode cX5_readParts 91 = .ok (.iconst 0, 1) := by decide +kernel
theorem dX5_readParts_92 : decode cX5_readParts 92 = .ok (.ireturn, 1) := by decide +kernel
theorem dX5_readParts_93 : decode cX5_readParts 93 = .ok (.iinc 1 1, 3) := by decide +kernel
theorem dX5_readParts_96 : decode cX5_readParts 96 = .ok (.goto (-94), 3) := by decide +kernel
theorem dX5_readParts_99 : decode cX5_readParts 99 = .ok (.iconst 0, 1) := by decide +kernel
theorem dX5_readParts_100 : decode cX5_readParts 100 = .ok (.ireturn, 1) := by decide +kernel
theorem dX5_readPart_0 : decode cX5_readPart 0 = .ok (.aload_n 0, 1) := by decide +kernel
theorem dX5_readPart_1 : decode cX5_readPart 1 = .ok (.getfield 19, 3) := by decide +kernel
theorem dX5_readPart_4 : decode cX5_readPart 4 = .ok (.getfield 87, 3) := by decide +kernel
theorem dX5_readPart_7 : decode cX5_readPart 7 = .ok (.aload_n 0, 1) := by decide +kernel
theorem dX5_readPart_8 : decode cX5_readPart 8 = .ok (.getfield 19, 3) := by decide +kernel
theorem dX5_readPart_11 : decode cX5_readPart 11 = .ok (.getfield 35, 3) := by decide +kernel
theorem dX5_readPart_14 : decode cX5_readPart 14 = .ok (.iaload, 1) := by decide +kernel
theorem dX5_readPart_15 : decode cX5_readPart 15 = .ok (.istore_n 2, 1) := by decide +kernel
theorem dX5_readPart_16 : decode cX5_readPart 16 = .ok (.aload_n 0, 1) := by decide +kernel
theorem dX5_readPart_17 : decode cX5_readPart 17 = .ok (.getfield 19, 3) := by decide +kernel
theorem dX5_readPart_20 : decode cX5_readPart 20 = .ok (.getfield 35, 3) := by decide +kernel
theorem dX5_readPart_23 : decode cX5_readPart 23 = .ok (.bipush 6, 2) := by decide +kernel
theorem dX5_readPart_25 : decode cX5_readPart 25 = .ok (.imul, 1) := by decide +kernel
theorem dX5_readPart_26 : decode cX5_readPart 26 = .ok (.iload_n 2, 1) := by decide +kernel
theorem dX5_readPart_27 : decode cX5_readPart 27 = .ok (.iadd, 1) := by decide +kernel
theorem dX5_readPart_28 : decode cX5_readPart 28 = .ok (.istore_n 3, 1) := by decide +kernel
theorem dX5_readPart_29 : decode cX5_readPart 29 = .ok (.aload_n 0, 1) := by decide +kernel
theorem dX5_readPart_30 : decode cX5_readPart 30 = .ok (.getfield 40, 3) := by decide +kernel
theorem dX5_readPart_33 : decode cX5_readPart 33 = .ok (.istore 4, 2) := by decide +kernel
theorem dX5_readPart_35 : decode cX5_readPart 35 = .ok (.iload_n 1, 1) := by decide +kernel
theorem dX5_readPart_36 : decode cX5_readPart 36 = .ok (.invokestatic 127, 3) := by decide +kernel
theorem dX5_readPart_39 : decode cX5_readPart 39 = .ok (.istore 5, 2) := by decide +kernel
theorem dX5_readPart_41 : decode cX5_readPart 41 = .ok (.iload 4, 2) := by decide +kernel
theorem dX5_readPart_43 : decode cX5_readPart 43 = .ok (.iconst 1, 1) := by decide +kernel
theorem dX5_readPart_44 : decode cX5_readPart 44 = .ok (.iadd, 1) := by decide +kernel
theorem dX5_readPart_45 : decode cX5_readPart 45 = .ok (.istore 6, 2) := by decide +kernel
theorem dX5_readPart_47 : decode cX5_readPart 47 = .ok (.iload 5, 2) := by decide +kernel
theorem dX5_readPart_49 : decode cX5_readPart 49 = .ok (.iconst 4, 1) := by decide +kernel
theorem dX5_readPart_50 : decode cX5_readPart 50 = .ok (.if_icmp .ne 12, 3) := by decide +kernel
theorem dX5_readPart_53 : decode cX5_readPart 53 = .ok (.aload_n 0, 1) := by decide +kernel
theorem dX5_readPart_54 : decode cX5_readPart 54 = .ok (.invokevirtual 97, 3) := by decide +kernel
theorem dX5_readPart_57 : decode cX5_readPart 57 = .ok (.ifCond .ne 21, 3) := by decide +kernel
theorem dX5_readPart_60 : decode cX5_readPart 60 = .ok (.iconst 0, 1) := by decide +kernel
theorem dX5_readPart_61 : decode cX5_readPart 61 = .ok (.ireturn, 1) := by decide +kernel
theorem dX5_readPart_62 : decode cX5_readPart 62 = .ok (.aload_n 0, 1) := by decide +kernel
theorem dX5_readPart_63 : decode cX5_readPart 63 = .ok (.iload 5, 2) := by decide +kernel
theorem dX5_readPart_65 : decode cX5_readPart 65 = .ok (.invokevirtual 130, 3) := by decide +kernel
theorem dX5_readPart_68 : decode cX5_readPart 68 = .ok (.istore 6, 2) := by decide +kernel
theorem dX5_readPart_70 : decode cX5_readPart 70 = .ok (.iload 6, 2) := by decide +kernel
theorem dX5_readPart_72 : decode cX5_readPart 72 = .ok (.iconst (-1), 1) := by decide +kernel
theorem dX5_readPart_73 : decode cX5_readPart 73 = .ok (.if_icmp .ne 5, 3) := by decide +kernel
theorem dX5_readPart_76 : decode cX5_readPart 76 = .ok (.iconst 0, 1) := by decide +kernel
theorem dX5_readPart_77 : decode cX5_readPart 77 = .ok (.ireturn, 1) := by decide +kernel
theorem dX5_readPart_78 : decode cX5_readPart 78 = .ok (.aload_n 0, 1) := by decide +kernel
theorem dX5_readPart_79 : decode cX5_readPart 79 = .ok (.getfield 19, 3) := by decide +kernel
theorem dX5_readPart_82 : decode cX5_readPart 82 = .ok (.getfield 133, 3) := by decide +kernel
theorem dX5_readPart_85 : decode cX5_readPart 85 = .ok (.iload_n 3, 1) := by decide +kernel
theorem dX5_readPart_86 : decode cX5_readPart 86 = .ok (.iload 5, 2) := by decide +kernel
theorem dX5_readPart_88 : decode cX5_readPart 88 = .ok (.iastore, 1) := by decide +kernel
theorem dX5_readPart_89 : decode cX5_readPart 89 = .ok (.aload_n 0, 1) := by decide +kernel
theorem dX5_readPart_90 : decode cX5_readPart 90 = .ok (.getfield 19, 3) := by decide +kernel
theorem dX5_readPart_93 : decode cX5_readPart 93 = .ok (.getfield 136, 3) := by decide +kernel
theorem dX5_readPart_96 : decode cX5_readPart 96 = .ok (.iload_n 3, 1) := by decide +kernel
theorem dX5_readPart_97 : decode cX5_readPart 97 = .ok (.iload 6, 2) := by decide +kernel
theorem dX5_readPart_99 : decode cX5_readPart 99 = .ok (.iastore, 1) := by decide +kernel
theorem dX5_readPart_100 : decode cX5_readPart 100 = .ok (.aload_n 0, 1) := by decide +kernel
theorem dX5_readPart_101 : decode cX5_readPart 101 = .ok (.getfield 19, 3) := by decide +kernel
theorem dX5_readPart_104 : decode cX5_readPart 104 = .ok (.getfield 139, 3) := by decide +kernel
theorem dX5_readPart_107 : decode cX5_readPart 107 = .ok (.iload_n 3, 1) := by decide +kernel
theorem dX5_readPart_108 : decode cX5_readPart 108 = .ok (.aload_n 0, 1) := by decide +kernel
theorem dX5_readPart_109 : decode cX5_readPart 109 = .ok (.getfield 40, 3) := by decide +kernel
theorem dX5_readPart_112 : decode cX5_readPart 112 = .ok (.iconst 1, 1) := by decide +kernel
theorem dX5_readPart_113 : decode cX5_readPart 113 = .ok (.isub, 1) := by decide +kernel
theorem dX5_readPart_114 : decode cX5_readPart 114 = .ok (.iastore, 1) := by decide +kernel
theorem dX5_readPart_115 : decode cX5_readPart 115 = .ok (.aload_n 0, 1) := by decide +kernel
theorem dX5_readPart_116 : decode cX5_readPart 116 = .ok (.getfield 19, 3) := by decide +kernel
theorem dX5_readPart_119 : decode cX5_readPart 119 = .ok (.getfield 87, 3) := by decide +kernel
theorem dX5_readPart_122 : decode cX5_readPart 122 = .ok (.aload_n 0, 1) := by decide +kernel
theorem dX5_readPart_123 : decode cX5_readPart 123 = .ok (.getfield 19, 3) := by decide +kernel
theorem dX5_readPart_126 : decode cX5_readPart 126 = .ok (.getfield 35, 3) := by decide +kernel
theorem dX5_readPart_129 : decode cX5_readPart 129 = .ok (.iload_n 2, 1) := by decide +kernel
theorem dX5_readPart_130 : decode cX5_readPart 130 = .ok (.iconst 1, 1) := by decide +kernel
theorem dX5_readPart_131 : decode cX5_readPart 131 = .ok (.iadd, 1) := by decide +kernel
theorem dX5_readPart_132 : decode cX5_readPart 132 = .ok (.iastore, 1) := by decide +kernel
theorem dX5_readPart_133 : decode cX5_readPart 133 = .ok (.iconst 1, 1) := by decide +kernel
theorem dX5_readPart_134 : decode cX5_readPart 134 = .ok (.ireturn, 1) := by decide +kernel
theorem dX5_readKnownName_0 : decode cX5_readKnownName 0 = .ok (.iload_n 1, 1) := by decide +kernel
theorem dX5_readKnownName_1 : decode cX5_readKnownName 1 = .ok (.ifCond .eq 44, 3) := by decide +kernel
theorem dX5_readKnownName_4 : decode cX5_readKnownName 4 = .ok (.aload_n 0, 1) := by decide +kernel
theorem dX5_readKnownName_5 : decode cX5_readKnownName 5 = .ok (.dup, 1) := by decide +kernel
theorem dX5_readKnownName_6 : decode cX5_readKnownName 6 = .ok (.getfield 40, 3) := by decide +kernel
theorem dX5_readKnownName_9 : decode cX5_readKnownName 9 = .ok (.iconst 1, 1) := by decide +kernel
theorem dX5_readKnownName_10 : decode cX5_readKnownName 10 = .ok (.iadd, 1) := by decide +kernel
theorem dX5_readKnownName_11 : decode cX5_readKnownName 11 = .ok (.putfield 40, 3) := by decide +kernel
theorem dX5_readKnownName_14 : decode cX5_readKnownName 14 = .ok (.aload_n 0, 1) := by decide +kernel
theorem dX5_readKnownName_15 : decode cX5_readKnownName 15 = .ok (.invokevirtual 68, 3) := by decide +kernel
theorem dX5_readKnownName_18 : decode cX5_readKnownName 18 = .ok (.iload_n 1, 1) := by decide +kernel
theorem dX5_readKnownName_19 : decode cX5_readKnownName 19 = .ok (.iconst 3, 1) := by decide +kernel
theorem dX5_readKnownName_20 : decode cX5_readKnownName 20 = .ok (.if_icmp .ne 8, 3) := by decide +kernel
theorem dX5_readKnownName_23 : decode cX5_readKnownName 23 = .ok (.bipush 119, 2) := by decide +kernel
theorem dX5_readKnownName_25 : decode cX5_readKnownName 25 = .ok (.goto 5, 3) := by decide +kernel
theorem dX5_readKnownName_28 : decode cX5_readKnownName 28 = .ok (.bipush 110, 2) := by decide +kernel
theorem dX5_readKnownName_30 : decode cX5_readKnownName 30 = .ok (.if_icmp .eq 15, 3) := by decide +kernel
theorem dX5_readKnownName_33 : decode cX5_readKnownName 33 = .ok (.aload_n 0, 1) := by decide +kernel
theorem dX5_readKnownName_34 : decode cX5_readKnownName 34 = .ok (.iconst 1, 1) := by decide +kernel
theorem dX5_readKnownName_35 : decode cX5_readKnownName 35 = .ok (.aload_n 0, 1) := by decide +kernel
theorem dX5_readKnownName_36 : decode cX5_readKnownName 36 = .ok (.getfield 40, 3) := by decide +kernel
theorem dX5_readKnownName_39 : decode cX5_readKnownName 39 = .ok (.invokevirtual 76, 3) := by decide +kernel
theorem dX5_readKnownName_42 : decode cX5_readKnownName 42 = .ok (.pop, 1) := by decide +kernel
theorem dX5_readKnownName_43 : decode cX5_readKnownName 43 = .ok (.iconst (-1), 1) := by decide +kernel
theorem dX5_readKnownName_44 : decode cX5_readKnownName 44 = .ok (.ireturn, 1) := by decide +kernel
theorem dX5_readKnownName_45 : decode cX5_readKnownName 45 = .ok (.aload_n 0, 1) := by decide +kernel
theorem dX5_readKnownName_46 : decode cX5_readKnownName 46 = .ok (.getfield 40, 3) := by decide +kernel
theorem dX5_readKnownName_49 : decode cX5_readKnownName 49 = .ok (.istore_n 2, 1) := by decide +kernel
theorem dX5_readKnownName_50 : decode cX5_readKnownName 50 = .ok (.aload_n 0, 1) := by decide +kernel
theorem dX5_readKnownName_51 : decode cX5_readKnownName 51 = .ok (.invokevirtual 103, 3) := by decide +kernel
theorem dX5_readKnownName_54 : decode cX5_readKnownName 54 = .ok (.istore_n 3, 1) := by decide +kernel
theorem dX5_readKnownName_55 : decode cX5_readKnownName 55 = .ok (.iload_n 3, 1) := by decide +kernel
theorem dX5_readKnownName_56 : decode cX5_readKnownName 56 = .ok (.iconst (-1), 1) := by decide +kernel
theorem dX5_readKnownName_57 : decode cX5_readKnownName 57 = .ok (.if_icmp .ne 5, 3) := by decide +kernel
theorem dX5_readKnownName_60 : decode cX5_readKnownName 60 = .ok (.iconst (-1), 1) := by decide +kernel
theorem dX5_readKnownName_61 : decode cX5_readKnownName 61 = .ok (.ireturn, 1) := by decide +kernel
theorem dX5_readKnownName_62 : decode cX5_readKnownName 62 = .ok (.aload_n 0, 1) := by decide +kernel
theorem dX5_readKnownName_63 : decode cX5_readKnownName 63 = .ok (.getfield 19, 3) := by decide +kernel
theorem dX5_readKnownName_66 : decode cX5_readKnownName 66 = .ok (.aload_n 0, 1) := by decide +kernel
theorem dX5_readKnownName_67 : decode cX5_readKnownName 67 = .ok (.getfield 19, 3) := by decide +kernel
theorem dX5_readKnownName_70 : decode cX5_readKnownName 70 = .ok (.getfield 35, 3) := by decide +kernel
theorem dX5_readKnownName_73 : decode cX5_readKnownName 73 = .ok (.iload_n 3, 1) := by decide +kernel
theorem dX5_readKnownName_74 : decode cX5_readKnownName 74 = .ok (.invokevirtual 109, 3) := by decide +kernel
theorem dX5_readKnownName_77 : decode cX5_readKnownName 77 = .ok (.istore 4, 2) := by decide +kernel
theorem dX5_readKnownName_79 : decode cX5_readKnownName 79 = .ok (.iload 4, 2) := by decide +kernel
theorem dX5_readKnownName_81 : decode cX5_readKnownName 81 = .ok (.iconst (-1), 1) := by decide +kernel
theorem dX5_readKnownName_82 : decode cX5_readKnownName 82 = .ok (.if_icmp .ne 10, 3) := by decide +kernel
theorem dX5_readKnownName_85 : decode cX5_readKnownName 85 = .ok (.aload_n 0, 1) := by decide +kernel
theorem dX5_readKnownName_86 : decode cX5_readKnownName 86 = .ok (.iconst 5, 1) := by decide +kernel
theorem dX5_readKnownName_87 : decode cX5_readKnownName 87 = .ok (.iload_n 2, 1) := by decide +kernel
theorem dX5_readKnownName_88 : decode cX5_readKnownName 88 = .ok (.invokevirtual 76, 3) := by decide +kernel
theorem dX5_readKnownName_91 : decode cX5_readKnownName 91 = .ok (.pop, 1) := by decide +kernel
theorem dX5_readKnownName_92 : decode cX5_readKnownName 92 = .ok (.iload 4, 2) := by decide +kernel
theorem dX5_readKnownName_94 : decode cX5_readKnownName 94 = .ok (.ireturn, 1) := by decide +kernel
theorem dX5_readName_0 : decode cX5_readName 0 = .ok (.aload_n 0, 1) := by decide +kernel
theorem dX5_readName_1 : decode cX5_readName 1 = .ok (.invokevirtual 68, 3) := by decide +kernel
theorem dX5_readName_4 : decode cX5_readName 4 = .ok (.invokestatic 106, 3) := by decide +kernel
theorem dX5_readName_7 : decode cX5_readName 7 = .ok (.istore_n 1, 1) := by decide +kernel
theorem dX5_readName_8 : decode cX5_readName 8 = .ok (.aload_n 0, 1) := by decide +kernel
theorem dX5_readName_9 : decode cX5_readName 9 = .ok (.dup, 1) := by decide +kernel
theorem dX5_readName_10 : decode cX5_readName 10 = .ok (.getfield 40, 3) := by decide +kernel
theorem dX5_readName_13 : decode cX5_readName 13 = .ok (.iconst 1, 1) := by decide +kernel
theorem dX5_readName_14 : decode cX5_readName 14 = .ok (.iadd, 1) := by decide +kernel
theorem dX5_readName_15 : decode cX5_readName 15 = .ok (.putfield 40, 3) := by decide +kernel
theorem dX5_readName_18 : decode cX5_readName 18 = .ok (.aload_n 0, 1) := by decide +kernel
theorem dX5_readName_19 : decode cX5_readName 19 = .ok (.invokevirtual 68, 3) := by decide +kernel
theorem dX5_readName_22 : decode cX5_readName 22 = .ok (.istore_n 2, 1) := by decide +kernel
theorem dX5_readName_23 : decode cX5_readName 23 = .ok (.iload_n 2, 1) := by decide +kernel
theorem dX5_readName_24 : decode cX5_readName 24 = .ok (.bipush 97, 2) := by decide +kernel
theorem dX5_readName_26 : decode cX5_readName 26 = .ok (.if_icmp .lt 9, 3) := by decide +kernel
theorem dX5_readName_29 : decode cX5_readName 29 = .ok (.iload_n 2, 1) := by decide +kernel
theorem dX5_readName_30 : decode cX5_readName 30 = .ok (.bipush 100, 2) := by decide +kernel
theorem dX5_readName_32 : decode cX5_readName 32 = .ok (.if_icmp .le 15, 3) := by decide +kernel
theorem dX5_readName_35 : decode cX5_readName 35 = .ok (.aload_n 0, 1) := by decide +kernel
theorem dX5_readName_36 : decode cX5_readName 36 = .ok (.iconst 1, 1) := by decide +kernel
theorem dX5_readName_37 : decode cX5_readName 37 = .ok (.aload_n 0, 1) := by decide +kernel
theorem dX5_readName_38 : decode cX5_readName 38 = .ok (.getfield 40, 3) := by decide +kernel
theorem dX5_readName_41 : decode cX5_readName 41 = .ok (.invokevirtual 76, 3) := by decide +kernel
theorem dX5_readName_44 : decode cX5_readName 44 = .ok (.pop, 1) := by decide +kernel
theorem dX5_readName_45 : decode cX5_readName 45 = .ok (.iconst (-1), 1) := by decide +kernel
theorem dX5_readName_46 : decode cX5_readName 46 = .ok (.ireturn, 1) := by decide +kernel
theorem dX5_readName_47 : decode cX5_readName 47 = .ok (.aload_n 0, 1) := by decide +kernel
theorem dX5_readName_48 : decode cX5_readName 48 = .ok (.dup, 1) := by decide +kernel
theorem dX5_readName_49 : decode cX5_readName 49 = .ok (.getfield 40, 3) := by decide +kernel
theorem dX5_readName_52 : decode cX5_readName 52 = .ok (.iconst 1, 1) := by decide +kernel
theorem dX5_readName_53 : decode cX5_readName 53 = .ok (.iadd, 1) := by decide +kernel
theorem dX5_readName_54 : decode cX5_readName 54 = .ok (.putfield 40, 3) := by decide +kernel
theorem dX5_readName_57 : decode cX5_readName 57 = .ok (.iload_n 1, 1) := by decide +kernel
theorem dX5_readName_58 : decode cX5_readName 58 = .ok (.iconst 4, 1) := by decide +kernel
theorem dX5_readName_59 : decode cX5_readName 59 = .ok (.imul, 1) := by decide +kernel
theorem dX5_readName_60 : decode cX5_readName 60 = .ok (.iload_n 2, 1) := by decide +kernel
theorem dX5_readName_61 : decode cX5_readName 61 = .ok (.iadd, 1) := by decide +kernel
theorem dX5_readName_62 : decode cX5_readName 62 = .ok (.bipush 97, 2) := by decide +kernel
theorem dX5_readName_64 : decode cX5_readName 64 = .ok (.isub, 1) := by decide +kernel
theorem dX5_readName_65 : decode cX5_readName 65 = .ok (.ireturn, 1) := by decide +kernel
theorem dX5_readQuote_0 : decode cX5_readQuote 0 = .ok (.aload_n 0, 1) := by decide +kernel
theorem dX5_readQuote_1 : decode cX5_readQuote 1 = .ok (.dup, 1) := by decide +kernel
theorem dX5_readQuote_2 : decode cX5_readQuote 2 = .ok (.getfield 40, 3) := by decide +kernel
theorem dX5_readQuote_5 : decode cX5_readQuote 5 = .ok (.iconst 1, 1) := by decide +kernel
theorem dX5_readQuote_6 : decode cX5_readQuote 6 = .ok (.iadd, 1) := by decide +kernel
