theorem dX0_init_0 : decode cX0_init 0 = .ok (.aload_n 0, 1) := by decide +kernel
theorem dX0_init_1 : decode cX0_init 1 = .ok (.invokespecial 1, 3) := by decide +kernel
theorem dX0_init_4 : decode cX0_init 4 = .ok (.aload_n 0, 1) := by decide +kernel
theorem dX0_init_5 : decode cX0_init 5 = .ok (.new 7, 3) := by decide +kernel
theorem dX0_init_8 : decode cX0_init 8 = .ok (.dup, 1) := by decide +kernel
theorem dX0_init_9 : decode cX0_init 9 = .ok (.invokespecial 9, 3) := by decide +kernel
theorem dX0_init_12 : decode cX0_init 12 = .ok (.putfield 10, 3) := by decide +kernel
theorem dX0_init_15 : decode cX0_init 15 = .ok (.aload_n 0, 1) := by decide +kernel
theorem dX0_init_16 : decode cX0_init 16 = .ok (.new 16, 3) := by decide +kernel
theorem dX0_init_19 : decode cX0_init 19 = .ok (.dup, 1) := by decide +kernel
theorem dX0_init_20 : decode cX0_init 20 = .ok (.invokespecial 18, 3) := by decide +kernel
theorem dX0_init_23 : decode cX0_init 23 = .ok (.putfield 19, 3) := by decide +kernel
theorem dX0_init_26 : decode cX0_init 26 = .ok (.return_, 1) := by decide +kernel
theorem dX0_count_0 : decode cX0_count 0 = .ok (.aload_n 0, 1) := by decide +kernel
theorem dX0_count_1 : decode cX0_count 1 = .ok (.getfield 10, 3) := by decide +kernel
theorem dX0_count_4 : decode cX0_count 4 = .ok (.invokevirtual 23, 3) := by decide +kernel
theorem dX0_count_7 : decode cX0_count 7 = .ok (.ireturn, 1) := by decide +kernel
theorem dX0_requestAt_0 : decode cX0_requestAt 0 = .ok (.iload_n 1, 1) := by decide +kernel
theorem dX0_requestAt_1 : decode cX0_requestAt 1 = .ok (.ifCond .lt 14, 3) := by decide +kernel
theorem dX0_requestAt_4 : decode cX0_requestAt 4 = .ok (.iload_n 1, 1) := by decide +kernel
theorem dX0_requestAt_5 : decode cX0_requestAt 5 = .ok (.aload_n 0, 1) := by decide +kernel
theorem dX0_requestAt_6 : decode cX0_requestAt 6 = .ok (.getfield 10, 3) := by decide +kernel
theorem dX0_requestAt_9 : decode cX0_requestAt 9 = .ok (.invokevirtual 23, 3) := by decide +kernel
theorem dX0_requestAt_12 : decode cX0_requestAt 12 = .ok (.if_icmp .lt 8, 3) := by decide +kernel
theorem dX0_requestAt_15 : decode cX0_requestAt 15 = .ok (.aload_n 0, 1) := by decide +kernel
theorem dX0_requestAt_16 : decode cX0_requestAt 16 = .ok (.getfield 19, 3) := by decide +kernel
theorem dX0_requestAt_19 : decode cX0_requestAt 19 = .ok (.areturn, 1) := by decide +kernel
theorem dX0_requestAt_20 : decode cX0_requestAt 20 = .ok (.aload_n 0, 1) := by decide +kernel
theorem dX0_requestAt_21 : decode cX0_requestAt 21 = .ok (.getfield 10, 3) := by decide +kernel
theorem dX0_requestAt_24 : decode cX0_requestAt 24 = .ok (.iload_n 1, 1) := by decide +kernel
theorem dX0_requestAt_25 : decode cX0_requestAt 25 = .ok (.invokevirtual 27, 3) := by decide +kernel
theorem dX0_requestAt_28 : decode cX0_requestAt 28 = .ok (.checkcast 16, 3) := by decide +kernel
theorem dX0_requestAt_31 : decode cX0_requestAt 31 = .ok (.areturn, 1) := by decide +kernel
theorem dX0_keepWish_0 : decode cX0_keepWish 0 = .ok (.aload_n 0, 1) := by decide +kernel
theorem dX0_keepWish_1 : decode cX0_keepWish 1 = .ok (.getfield 19, 3) := by decide +kernel
theorem dX0_keepWish_4 : decode cX0_keepWish 4 = .ok (.astore_n 1, 1) := by decide +kernel
theorem dX0_keepWish_5 : decode cX0_keepWish 5 = .ok (.aload_n 0, 1) := by decide +kernel
theorem dX0_keepWish_6 : decode cX0_keepWish 6 = .ok (.getfield 10, 3) := by decide +kernel
theorem dX0_keepWish_9 : decode cX0_keepWish 9 = .ok (.aload_n 1, 1) := by decide +kernel
theorem dX0_keepWish_10 : decode cX0_keepWish 10 = .ok (.invokevirtual 31, 3) := by decide +kernel
theorem dX0_keepWish_13 : decode cX0_keepWish 13 = .ok (.pop, 1) := by decide +kernel
theorem dX0_keepWish_14 : decode cX0_keepWish 14 = .ok (.aload_n 0, 1) := by decide +kernel
theorem dX0_keepWish_15 : decode cX0_keepWish 15 = .ok (.new 16, 3) := by decide +kernel
theorem dX0_keepWish_18 : decode cX0_keepWish 18 = .ok (.dup, 1) := by decide +kernel
theorem dX0_keepWish_19 : decode cX0_keepWish 19 = .ok (.invokespecial 18, 3) := by decide +kernel
theorem dX0_keepWish_22 : decode cX0_keepWish 22 = .ok (.putfield 19, 3) := by decide +kernel
theorem dX0_keepWish_25 : decode cX0_keepWish 25 = .ok (.aload_n 1, 1) := by decide +kernel
theorem dX0_keepWish_26 : decode cX0_keepWish 26 = .ok (.areturn, 1) := by decide +kernel
theorem dX0_xOf_0 : decode cX0_xOf 0 = .ok (.aload_n 0, 1) := by decide +kernel
theorem dX0_xOf_1 : decode cX0_xOf 1 = .ok (.iload_n 1, 1) := by decide +kernel
theorem dX0_xOf_2 : decode cX0_xOf 2 = .ok (.invokestatic 35, 3) := by decide +kernel
theorem dX0_xOf_5 : decode cX0_xOf 5 = .ok (.invokevirtual 41, 3) := by decide +kernel
theorem dX0_xOf_8 : decode cX0_xOf 8 = .ok (.astore_n 2, 1) := by decide +kernel
theorem dX0_xOf_9 : decode cX0_xOf 9 = .ok (.iload_n 1, 1) := by decide +kernel
theorem dX0_xOf_10 : decode cX0_xOf 10 = .ok (.invokestatic 45, 3) := by decide +kernel
theorem dX0_xOf_13 : decode cX0_xOf 13 = .ok (.ifCond .eq 10, 3) := by decide +kernel
theorem dX0_xOf_16 : decode cX0_xOf 16 = .ok (.aload_n 2, 1) := by decide +kernel
theorem dX0_xOf_17 : decode cX0_xOf 17 = .ok (.getfield 49, 3) := by decide +kernel
theorem dX0_xOf_20 : decode cX0_xOf 20 = .ok (.goto 7, 3) := by decide +kernel
theorem dX0_xOf_23 : decode cX0_xOf 23 = .ok (.aload_n 2, 1) := by decide +kernel
theorem dX0_xOf_24 : decode cX0_xOf 24 = .ok (.getfield 53, 3) := by decide +kernel
theorem dX0_xOf_27 : decode cX0_xOf 27 = .ok (.ireturn, 1) := by decide +kernel
theorem dX0_yOf_0 : decode cX0_yOf 0 = .ok (.aload_n 0, 1) := by decide +kernel
theorem dX0_yOf_1 : decode cX0_yOf 1 = .ok (.iload_n 1, 1) := by decide +kernel
theorem dX0_yOf_2 : decode cX0_yOf 2 = .ok (.invokestatic 35, 3) := by decide +kernel
theorem dX0_yOf_5 : decode cX0_yOf 5 = .ok (.invokevirtual 41, 3) := by decide +kernel
theorem dX0_yOf_8 : decode cX0_yOf 8 = .ok (.astore_n 2, 1) := by decide +kernel
theorem dX0_yOf_9 : decode cX0_yOf 9 = .ok (.iload_n 1, 1) := by decide +kernel
theorem dX0_yOf_10 : decode cX0_yOf 10 = .ok (.invokestatic 45, 3) := by decide +kernel
theorem dX0_yOf_13 : decode cX0_yOf 13 = .ok (.ifCond .eq 10, 3) := by decide +kernel
theorem dX0_yOf_16 : decode cX0_yOf 16 = .ok (.aload_n 2, 1) := by decide +kernel
theorem dX0_yOf_17 : decode cX0_yOf 17 = .ok (.getfield 56, 3) := by decide +kernel
theorem dX0_yOf_20 : decode cX0_yOf 20 = .ok (.goto 7, 3) := by decide +kernel
theorem dX0_yOf_23 : decode cX0_yOf 23 = .ok (.aload_n 2, 1) := by decide +kernel
theorem dX0_yOf_24 : decode cX0_yOf 24 = .ok (.getfield 59, 3) := by decide +kernel
theorem dX0_yOf_27 : decode cX0_yOf 27 = .ok (.ireturn, 1) := by decide +kernel
theorem dX0_wayTo_0 : decode cX0_wayTo 0 = .ok (.iload_n 2, 1) := by decide +kernel
theorem dX0_wayTo_1 : decode cX0_wayTo 1 = .ok (.iload_n 3, 1) := by decide +kernel
theorem dX0_wayTo_2 : decode cX0_wayTo 2 = .ok (.aload_n 0, 1) := by decide +kernel
theorem dX0_wayTo_3 : decode cX0_wayTo 3 = .ok (.iload_n 1, 1) := by decide +kernel
theorem dX0_wayTo_4 : decode cX0_wayTo 4 = .ok (.invokevirtual 62, 3) := by decide +kernel
theorem dX0_wayTo_7 : decode cX0_wayTo 7 = .ok (.aload_n 0, 1) := by decide +kernel
theorem dX0_wayTo_8 : decode cX0_wayTo 8 = .ok (.iload_n 1, 1) := by decide +kernel
theorem dX0_wayTo_9 : decode cX0_wayTo 9 = .ok (.invokevirtual 65, 3) := by decide +kernel
theorem dX0_wayTo_12 : decode cX0_wayTo 12 = .ok (.invokestatic 68, 3) := by decide +kernel
theorem dX0_wayTo_15 : decode cX0_wayTo 15 = .ok (.ireturn, 1) := by decide +kernel
theorem dX1_init_0 : decode cX1_init 0 = .ok (.aload_n 0, 1) := by decide +kernel
theorem dX1_init_1 : decode cX1_init 1 = .ok (.invokespecial 1, 3) := by decide +kernel
theorem dX1_init_4 : decode cX1_init 4 = .ok (.aload_n 0, 1) := by decide +kernel
theorem dX1_init_5 : decode cX1_init 5 = .ok (.new 7, 3) := by decide +kernel
theorem dX1_init_8 : decode cX1_init 8 = .ok (.dup, 1) := by decide +kernel
theorem dX1_init_9 : decode cX1_init 9 = .ok (.invokespecial 9, 3) := by decide +kernel
theorem dX1_init_12 : decode cX1_init 12 = .ok (.putfield 10, 3) := by decide +kernel
theorem dX1_init_15 : decode cX1_init 15 = .ok (.aload_n 0, 1) := by decide +kernel
theorem dX1_init_16 : decode cX1_init 16 = .ok (.iload_n 1, 1) := by decide +kernel
theorem dX1_init_17 : decode cX1_init 17 = .ok (.putfield 16, 3) := by decide +kernel
theorem dX1_init_20 : decode cX1_init 20 = .ok (.aload_n 0, 1) := by decide +kernel
theorem dX1_init_21 : decode cX1_init 21 = .ok (.iload_n 2, 1) := by decide +kernel
theorem dX1_init_22 : decode cX1_init 22 = .ok (.putfield 20, 3) := by decide +kernel
theorem dX1_init_25 : decode cX1_init 25 = .ok (.aload_n 0, 1) := by decide +kernel
theorem dX1_init_26 : decode cX1_init 26 = .ok (.iload_n 3, 1) := by decide +kernel
theorem dX1_init_27 : decode cX1_init 27 = .ok (.putfield 23, 3) := by decide +kernel
theorem dX1_init_30 : decode cX1_init 30 = .ok (.aload_n 0, 1) := by decide +kernel
theorem dX1_init_31 : decode cX1_init 31 = .ok (.iload 4, 2) := by decide +kernel
theorem dX1_init_33 : decode cX1_init 33 = .ok (.putfield 26, 3) := by decide +kernel
theorem dX1_init_36 : decode cX1_init 36 = .ok (.aload_n 0, 1) := by decide +kernel
theorem dX1_init_37 : decode cX1_init 37 = .ok (.iload 5, 2) := by decide +kernel
theorem dX1_init_39 : decode cX1_init 39 = .ok (.putfield 29, 3) := by decide +kernel
theorem dX1_init_42 : decode cX1_init 42 = .ok (.aload_n 0, 1) := by decide +kernel
theorem dX1_init_43 : decode cX1_init 43 = .ok (.iload 4, 2) := by decide +kernel
theorem dX1_init_45 : decode cX1_init 45 = .ok (.putfield 32, 3) := by decide +kernel
theorem dX1_init_48 : decode cX1_init 48 = .ok (.aload_n 0, 1) := by decide +kernel
theorem dX1_init_49 : decode cX1_init 49 = .ok (.iload 5, 2) := by decide +kernel
theorem dX1_init_51 : decode cX1_init 51 = .ok (.putfield 35, 3) := by decide +kernel
theorem dX1_init_54 : decode cX1_init 54 = .ok (.aload_n 0, 1) := by decide +kernel
theorem dX1_init_55 : decode cX1_init 55 = .ok (.iload_n 3, 1) := by decide +kernel
theorem dX1_init_56 : decode cX1_init 56 = .ok (.putfield 38, 3) := by decide +kernel
theorem dX1_init_59 : decode cX1_init 59 = .ok (.return_, 1) := by decide +kernel
theorem dX1_driveTowards_0 : decode cX1_driveTowards 0 = .ok (.aload_n 0, 1) := by decide +kernel
theorem dX1_driveTowards_1 : decode cX1_driveTowards 1 = .ok (.getfield 32, 3) := by decide +kernel
theorem dX1_driveTowards_4 : decode cX1_driveTowards 4 = .ok (.iload_n 1, 1) := by decide +kernel
theorem dX1_driveTowards_5 : decode cX1_driveTowards 5 = .ok (.if_icmp .eq 28, 3) := by decide +kernel
theorem dX1_driveTowards_8 : decode cX1_driveTowards 8 = .ok (.aload_n 0, 1) := by decide +kernel
theorem dX1_driveTowards_9 : decode cX1_driveTowards 9 = .ok (.dup, 1) := by decide +kernel
theorem dX1_driveTowards_10 : decode cX1_driveTowards 10 = .ok (.getfield 32, 3) := by decide +kernel
theorem dX1_driveTowards_13 : decode cX1_driveTowards 13 = .ok (.iload_n 1, 1) := by decide +kernel
theorem dX1_driveTowards_14 : decode cX1_driveTowards 14 = .ok (.aload_n 0, 1) := by decide +kernel
theorem dX1_driveTowards_15 : decode cX1_driveTowards 15 = .ok (.getfield 32, 3) := by decide +kernel
theorem dX1_driveTowards_18 : decode cX1_driveTowards 18 = .ok (.if_icmp .le 7, 3) := by decide +kernel
theorem dX1_driveTowards_21 : decode cX1_driveTowards 21 = .ok (.iconst 1, 1) := by decide +kernel
theorem dX1_driveTowards_22 : decode cX1_driveTowards 22 = .ok (.goto 4, 3) := by decide +kernel
theorem dX1_driveTowards_25 : decode cX1_driveTowards 25 = .ok (.iconst (-1), 1) := by decide +kernel
theorem dX1_driveTowards_26 : decode cX1_driveTowards 26 = .ok (.iadd, 1) := by decide +kernel
theorem dX1_driveTowards_27 : decode cX1_driveTowards 27 = .ok (.putfield 32, 3) := by decide +kernel
theorem dX1_driveTowards_30 : decode cX1_driveTowards 30 = .ok (.goto 25, 3) := by decide +kernel
theorem dX1_driveTowards_33 : decode cX1_driveTowards 33 = .ok (.aload_n 0, 1) := by decide +kernel
theorem dX1_driveTowards_34 : decode cX1_driveTowards 34 = .ok (.dup, 1) := by decide +kernel
theorem dX1_driveTowards_35 : decode cX1_driveTowards 35 = .ok (.getfield 35, 3) := by decide +kernel
theorem dX1_driveTowards_38 : decode cX1_driveTowards 38 = .ok (.iload_n 2, 1) := by decide +kernel
theorem dX1_driveTowards_39 : decode cX1_driveTowards 39 = .ok (.aload_n 0, 1) := by decide +kernel
theorem dX1_driveTowards_40 : decode cX1_driveTowards 40 = .ok (.getfield 35, 3) := by decide +kernel
theorem dX1_driveTowards_43 : decode cX1_driveTowards 43 = .ok (.if_icmp .le 7, 3) := by decide +kernel
theorem dX1_driveTowards_46 : decode cX1_driveTowards 46 = .ok (.iconst 1, 1) := by decide +kernel
theorem dX1_driveTowards_47 : decode cX1_driveTowards 47 = .ok (.goto 4, 3) := by decide +kernel
theorem dX1_driveTowards_50 : decode cX1_driveTowards 50 = .ok (.iconst (-1), 1) := by decide +kernel
theorem dX1_driveTowards_51 : decode cX1_driveTowards 51 = .ok (.iadd, 1) := by decide +kernel
theorem dX1_driveTowards_52 : decode cX1_driveTowards 52 = .ok (.putfield 35, 3) := by decide +kernel
theorem dX1_driveTowards_55 : decode cX1_driveTowards 55 = .ok (.aload_n 0, 1) := by decide +kernel
theorem dX1_driveTowards_56 : decode cX1_driveTowards 56 = .ok (.dup, 1) := by decide +kernel
theorem dX1_driveTowards_57 : decode cX1_driveTowards 57 = .ok (.getfield 38, 3) := by decide +kernel
theorem dX1_driveTowards_60 : decode cX1_driveTowards 60 = .ok (.iconst 1, 1) := by decide +kernel
theorem dX1_driveTowards_61 : decode cX1_driveTowards 61 = .ok (.isub, 1) := by decide +kernel
theorem dX1_driveTowards_62 : decode cX1_driveTowards 62 = .ok (.putfield 38, 3) := by decide +kernel
theorem dX1_driveTowards_65 : decode cX1_driveTowards 65 = .ok (.aload_n 0, 1) := by decide +kernel
theorem dX1_driveTowards_66 : decode cX1_driveTowards 66 = .ok (.dup, 1) := by decide +kernel
theorem dX1_driveTowards_67 : decode cX1_driveTowards 67 = .ok (.getfield 41, 3) := by decide +kernel
theorem dX1_driveTowards_70 : decode cX1_driveTowards 70 = .ok (.iconst 1, 1) := by decide +kernel
theorem dX1_driveTowards_71 : decode cX1_driveTowards 71 = .ok (.iadd, 1) := by decide +kernel
theorem dX1_driveTowards_72 : decode cX1_driveTowards 72 = .ok (.putfield 41, 3) := by decide +kernel
theorem dX1_driveTowards_75 : decode cX1_driveTowards 75 = .ok (.aload_n 0, 1) := by decide +kernel
theorem dX1_driveTowards_76 : decode cX1_driveTowards 76 = .ok (.dup, 1) := by decide +kernel
theorem dX1_driveTowards_77 : decode cX1_driveTowards 77 = .ok (.getfield 44, 3) := by decide +kernel
theorem dX1_driveTowards_80 : decode cX1_driveTowards 80 = .ok (.aload_n 0, 1) := by decide +kernel
theorem dX1_driveTowards_81 : decode cX1_driveTowards 81 = .ok (.getfield 47, 3) := by decide +kernel
theorem dX1_driveTowards_84 : decode cX1_driveTowards 84 = .ok (.iadd, 1) := by decide +kernel
theorem dX1_driveTowards_85 : decode cX1_driveTowards 85 = .ok (.putfield 44, 3) := by decide +kernel
theorem dX1_driveTowards_88 : decode cX1_driveTowards 88 = .ok (.aload_n 0, 1) := by decide +kernel
theorem dX1_driveTowards_89 : decode cX1_driveTowards 89 = .ok (.getfield 47, 3) := by decide +kernel
theorem dX1_driveTowards_92 : decode cX1_driveTowards 92 = .ok (.ifCond .ne 13, 3) := by decide +kernel
theorem dX1_driveTowards_95 : decode cX1_driveTowards 95 = .ok (.aload_n 0, 1) := by decide +kernel
theorem dX1_driveTowards_96 : decode cX1_driveTowards 96 = .ok (.dup, 1) := by decide +kernel
theorem dX1_driveTowards_97 : decode cX1_driveTowards 97 = .ok (.getfield 50, 3) := by decide +kernel
theorem dX1_driveTowards_100 : decode cX1_driveTowards 100 = .ok (.iconst 1, 1) := by decide +kernel
theorem dX1_driveTowards_101 : decode cX1_driveTowards 101 = .ok (.iadd, 1) := by decide +kernel
theorem dX1_driveTowards_102 : decode cX1_driveTowards 102 = .ok (.putfield 50, 3) := by decide +kernel
theorem dX1_driveTowards_105 : decode cX1_driveTowards 105 = .ok (.return_, 1) := by decide +kernel
theorem dX2_init_0 : decode cX2_init 0 = .ok (.aload_n 0, 1) := by decide +kernel
theorem dX2_init_1 : decode cX2_init 1 = .ok (.invokespecial 3, 3) := by decide +kernel
theorem dX2_init_4 : decode cX2_init 4 = .ok (.aload_n 0, 1) := by decide +kernel
theorem dX2_init_5 : decode cX2_init 5 = .ok (.new 9, 3) := by decide +kernel
theorem dX2_init_8 : decode cX2_init 8 = .ok (.dup, 1) := by decide +kernel
theorem dX2_init_9 : decode cX2_init 9 = .ok (.invokespecial 11, 3) := by decide +kernel
theorem dX2_init_12 : decode cX2_init 12 = .ok (.putfield 12, 3) := by decide +kernel
theorem dX2_init_15 : decode cX2_init 15 = .ok (.aload_n 0, 1) := by decide +kernel
theorem dX2_init_16 : decode cX2_init 16 = .ok (.aload_n 1, 1) := by decide +kernel
theorem dX2_init_17 : decode cX2_init 17 = .ok (.putfield 18, 3) := by decide +kernel
theorem dX2_init_20 : decode cX2_init 20 = .ok (.aload_n 0, 1) := by decide +kernel
theorem dX2_init_21 : decode cX2_init 21 = .ok (.aload_n 2, 1) := by decide +kernel
theorem dX2_init_22 : decode cX2_init 22 = .ok (.putfield 22, 3) := by decide +kernel
theorem dX2_init_25 : decode cX2_init 25 = .ok (.return_, 1) := by decide +kernel
theorem dX2_isFound_0 : decode cX2_isFound 0 = .ok (.aload_n 0, 1) := by decide +kernel
theorem dX2_isFound_1 : decode cX2_isFound 1 = .ok (.getfield 26, 3) := by decide +kernel
theorem dX2_isFound_4 : decode cX2_isFound 4 = .ok (.ifCond .lt 7, 3) := by decide +kernel
theorem dX2_isFound_7 : decode cX2_isFound 7 = .ok (.iconst 1, 1) := by decide +kernel
theorem dX2_isFound_8 : decode cX2_isFound 8 = .ok (.goto 4, 3) := by decide +kernel
theorem dX2_isFound_11 : decode cX2_isFound 11 = .ok (.iconst 0, 1) := by decide +kernel
theorem dX2_isFound_12 : decode cX2_isFound 12 = .ok (.ireturn, 1) := by decide +kernel
theorem dX2_tryAll_0 : decode cX2_tryAll 0 = .ok (.aload_n 0, 1) := by decide +kernel
theorem dX2_tryAll_1 : decode cX2_tryAll 1 = .ok (.invokevirtual 30, 3) := by decide +kernel
theorem dX2_tryAll_4 : decode cX2_tryAll 4 = .ok (.iconst 0, 1) := by decide +kernel
theorem dX2_tryAll_5 : decode cX2_tryAll 5 = .ok (.istore 4, 2) := by decide +kernel
theorem dX2_tryAll_7 : decode cX2_tryAll 7 = .ok (.iload 4, 2) := by decide +kernel
theorem dX2_tryAll_9 : decode cX2_tryAll 9 = .ok (.aload_n 1, 1) := by decide +kernel
theorem dX2_tryAll_10 : decode cX2_tryAll 10 = .ok (.invokevirtual 33, 3) := by decide +kernel
theorem dX2_tryAll_13 : decode cX2_tryAll 13 = .ok (.if_icmp .ge 168, 3) := by decide +kernel
theorem dX2_tryAll_16 : decode cX2_tryAll 16 = .ok (.aload_n 1, 1) := by decide +kernel
theorem dX2_tryAll_17 : decode cX2_tryAll 17 = .ok (.iload 4, 2) := by decide +kernel
theorem dX2_tryAll_19 : decode cX2_tryAll 19 = .ok (.invokevirtual 39, 3) := by decide +kernel
theorem dX2_tryAll_22 : decode cX2_tryAll 22 = .ok (.checkcast 43, 3) := by decide +kernel
theorem dX2_tryAll_25 : decode cX2_tryAll 25 = .ok (.astore 5, 2) := by decide +kernel
theorem dX2_tryAll_27 : decode cX2_tryAll 27 = .ok (.aload_n 0, 1) := by decide +kernel
theorem dX2_tryAll_28 : decode cX2_tryAll 28 = .ok (.getfield 18, 3) := by decide +kernel
theorem dX2_tryAll_31 : decode cX2_tryAll 31 = .ok (.aload 5, 2) := by decide +kernel
theorem dX2_tryAll_33 : decode cX2_tryAll 33 = .ok (.aload 5, 2) := by decide +kernel
theorem dX2_tryAll_35 : decode cX2_tryAll 35 = .ok (.getfield 45, 3) := by decide +kernel
theorem dX2_tryAll_38 : decode cX2_tryAll 38 = .ok (.invokevirtual 48, 3) := by decide +kernel
theorem dX2_tryAll_41 : decode cX2_tryAll 41 = .ok (.istore 6, 2) := by decide +kernel
theorem dX2_tryAll_43 : decode cX2_tryAll 43 = .ok (.iconst 0, 1) := by decide +kernel
theorem dX2_tryAll_44 : decode cX2_tryAll 44 = .ok (.istore 7, 2) := by decide +kernel
theorem dX2_tryAll_46 : decode cX2_tryAll 46 = .ok (.iload 7, 2) := by decide +kernel
theorem dX2_tryAll_48 : decode cX2_tryAll 48 = .ok (.aload 5, 2) := by decide +kernel
theorem dX2_tryAll_50 : decode cX2_tryAll 50 = .ok (.getfield 45, 3) := by decide +kernel
theorem dX2_tryAll_53 : decode cX2_tryAll 53 = .ok (.getfield 54, 3) := by decide +kernel
theorem dX2_tryAll_56 : decode cX2_tryAll 56 = .ok (.if_icmp .gt 119, 3) := by decide +kernel
theorem dX2_tryAll_59 : decode cX2_tryAll 59 = .ok (.iload 7, 2) := by decide +kernel
theorem dX2_tryAll_61 : decode cX2_tryAll 61 = .ok (.istore 8, 2) := by decide +kernel
theorem dX2_tryAll_63 : decode cX2_tryAll 63 = .ok (.iload 8, 2) := by decide +kernel
theorem dX2_tryAll_65 : decode cX2_tryAll 65 = .ok (.aload 5, 2) := by decide +kernel
theorem dX2_tryAll_67 : decode cX2_tryAll 67 = .ok (.getfield 45, 3) := by decide +kernel
theorem dX2_tryAll_70 : decode cX2_tryAll 70 = .ok (.getfield 54, 3) := by decide +kernel
theorem dX2_tryAll_73 : decode cX2_tryAll 73 = .ok (.if_icmp .gt 96, 3) := by decide +kernel
theorem dX2_tryAll_76 : decode cX2_tryAll 76 = .ok (.aload_n 0, 1) := by decide +kernel
theorem dX2_tryAll_77 : decode cX2_tryAll 77 = .ok (.aload 5, 2) := by decide +kernel
theorem dX2_tryAll_79 : decode cX2_tryAll 79 = .ok (.getfield 45, 3) := by decide +kernel
theorem dX2_tryAll_82 : decode cX2_tryAll 82 = .ok (.iload_n 2, 1) := by decide +kernel
theorem dX2_tryAll_83 : decode cX2_tryAll 83 = .ok (.iload 7, 2) := by decide +kernel
theorem dX2_tryAll_85 : decode cX2_tryAll 85 = .ok (.iload 8, 2) := by decide +kernel
theorem dX2_tryAll_87 : decode cX2_tryAll 87 = .ok (.invokevirtual 57, 3) := by decide +kernel
theorem dX2_tryAll_90 : decode cX2_tryAll 90 = .ok (.aload_n 0, 1) := by decide +kernel
theorem dX2_tryAll_91 : decode cX2_tryAll 91 = .ok (.getfield 18, 3) := by decide +kernel
theorem dX2_tryAll_94 : decode cX2_tryAll 94 = .ok (.aload 5, 2) := by decide +kernel
theorem dX2_tryAll_96 : decode cX2_tryAll 96 = .ok (.aload_n 0, 1) := by decide +kernel
theorem dX2_tryAll_97 : decode cX2_tryAll 97 = .ok (.getfield 12, 3) := by decide +kernel
theorem dX2_tryAll_100 : decode cX2_tryAll 100 = .ok (.iload_n 3, 1) := by decide +kernel
theorem dX2_tryAll_101 : decode cX2_tryAll 101 = .ok (.invokevirtual 61, 3) := by decide +kernel
theorem dX2_tryAll_104 : decode cX2_tryAll 104 = .ok (.istore 9, 2) := by decide +kernel
theorem dX2_tryAll_106 : decode cX2_tryAll 106 = .ok (.aload_n 0, 1) := by decide +kernel
theorem dX2_tryAll_107 : decode cX2_tryAll 107 = .ok (.aload_n 0, 1) := by decide +kernel
theorem dX2_tryAll_108 : decode cX2_tryAll 108 = .ok (.getfield 65, 3) := by decide +kernel
theorem dX2_tryAll_111 : decode cX2_tryAll 111 = .ok (.iload 9, 2) := by decide +kernel
theorem dX2_tryAll_113 : decode cX2_tryAll 113 = .ok (.invokestatic 68, 3) := by decide +kernel
theorem dX2_tryAll_116 : decode cX2_tryAll 116 = .ok (.putfield 65, 3) := by decide +kernel
theorem dX2_tryAll_119 : decode cX2_tryAll 119 = .ok (.aload_n 0, 1) := by decide +kernel
theorem dX2_tryAll_120 : decode cX2_tryAll 120 = .ok (.getfield 18, 3) := by decide +kernel
theorem dX2_tryAll_123 : decode cX2_tryAll 123 = .ok (.aload 5, 2) := by decide +kernel
theorem dX2_tryAll_125 : decode cX2_tryAll 125 = .ok (.aload_n 0, 1) := by decide +kernel
theorem dX2_tryAll_126 : decode cX2_tryAll 126 = .ok (.getfield 12, 3) := by decide +kernel
theorem dX2_tryAll_129 : decode cX2_tryAll 129 = .ok (.invokevirtual 48, 3) := by decide +kernel
theorem dX2_tryAll_132 : decode cX2_tryAll 132 = .ok (.iload 6, 2) := by decide +kernel
theorem dX2_tryAll_134 : decode cX2_tryAll 134 = .ok (.isub, 1) := by decide +kernel
theorem dX2_tryAll_135 : decode cX2_tryAll 135 = .ok (.istore 10, 2) := by decide +kernel
theorem dX2_tryAll_137 : decode cX2_tryAll 137 = .ok (.iload 9, 2) := by decide +kernel
theorem dX2_tryAll_139 : decode cX2_tryAll 139 = .ok (.ifCond .ne 24, 3) := by decide +kernel
theorem dX2_tryAll_142 : decode cX2_tryAll 142 = .ok (.iload 10, 2) := by decide +kernel
theorem dX2_tryAll_144 : decode cX2_tryAll 144 = .ok (.aload_n 0, 1) := by decide +kernel
theorem dX2_tryAll_145 : decode cX2_tryAll 145 = .ok (.getfield 74, 3) := by decide +kernel
theorem dX2_tryAll_148 : decode cX2_tryAll 148 = .ok (.if_icmp .ge 15, 3) := by decide +kernel
theorem dX2_tryAll_151 : decode cX2_tryAll 151 = .ok (.aload_n 0, 1) := by decide +kernel
theorem dX2_tryAll_152 : decode cX2_tryAll 152 = .ok (.iload 4, 2) := by decide +kernel
theorem dX2_tryAll_154 : decode cX2_tryAll 154 = .ok (.iload 7, 2) := by decide +kernel
theorem dX2_tryAll_156 : decode cX2_tryAll 156 = .ok (.iload 8, 2) := by decide +kernel
theorem dX2_tryAll_158 : decode cX2_tryAll 158 = .ok (.iload 10, 2) := by decide +kernel
theorem dX2_tryAll_160 : decode cX2_tryAll 160 = .ok (.invokevirtual 77, 3) := by decide +kernel
theorem dX2_tryAll_163 : decode cX2_tryAll 163 = .ok (.iinc 8 1, 3) := by decide +kernel
theorem dX2_tryAll_166 : decode cX2_tryAll 166 = .ok (.goto (-103), 3) := by decide +kernel
theorem dX2_tryAll_169 : decode cX2_tryAll 169 = .ok (.iinc 7 1, 3) := by decide +kernel
theorem dX2_tryAll_172 : decode cX2_tryAll 172 = .ok (.goto (-126), 3) := by decide +kernel
theorem dX2_tryAll_175 : decode cX2_tryAll 175 = .ok (.iinc 4 1, 3) := by decide +kernel
theorem dX2_tryAll_178 : decode cX2_tryAll 178 = .ok (.goto (-171), 3) := by decide +kernel
theorem dX2_tryAll_181 : decode cX2_tryAll 181 = .ok (.return_, 1) := by decide +kernel
theorem dX2_tryEarly_0 : decode cX2_tryEarly 0 = .ok (.aload_n 0, 1) := by decide +kernel
theorem dX2_tryEarly_1 : decode cX2_tryEarly 1 = .ok (.invokevirtual 30, 3) := by decide +kernel
theorem dX2_tryEarly_4 : decode cX2_tryEarly 4 = .ok (.iconst 0, 1) := by decide +kernel
theorem dX2_tryEarly_5 : decode cX2_tryEarly 5 = .ok (.istore 4, 2) := by decide +kernel
theorem dX2_tryEarly_7 : decode cX2_tryEarly 7 = .ok (.iload 4, 2) := by decide +kernel
theorem dX2_tryEarly_9 : decode cX2_tryEarly 9 = .ok (.aload_n 1, 1) := by decide +kernel
theorem dX2_tryEarly_10 : decode cX2_tryEarly 10 = .ok (.invokevirtual 33, 3) := by decide +kernel
theorem dX2_tryEarly_13 : decode cX2_tryEarly 13 = .ok (.if_icmp .ge 156, 3) := by decide +kernel
theorem dX2_tryEarly_16 : decode cX2_tryEarly 16 = .ok (.aload_n 1, 1) := by decide +kernel
theorem dX2_tryEarly_17 : decode cX2_tryEarly 17 = .ok (.iload 4, 2) := by decide +kernel
theorem dX2_tryEarly_19 : decode cX2_tryEarly 19 = .ok (.invokevirtual 39, 3) := by decide +kernel
theorem dX2_tryEarly_22 : decode cX2_tryEarly 22 = .ok (.checkcast 43, 3) := by decide +kernel
theorem dX2_tryEarly_25 : decode cX2_tryEarly 25 = .ok (.astore 5, 2) := by decide +kernel
theorem dX2_tryEarly_27 : decode cX2_tryEarly 27 = .ok (.aload_n 0, 1) := by decide +kernel
theorem dX2_tryEarly_28 : decode cX2_tryEarly 28 = .ok (.getfield 18, 3) := by decide +kernel
theorem dX2_tryEarly_31 : decode cX2_tryEarly 31 = .ok (.aload 5, 2) := by decide +kernel
theorem dX2_tryEarly_33 : decode cX2_tryEarly 33 = .ok (.aload 5, 2) := by decide +kernel
theorem dX2_tryEarly_35 : decode cX2_tryEarly 35 = .ok (.getfield 45, 3) := by decide +kernel
theorem dX2_tryEarly_38 : decode cX2_tryEarly 38 = .ok (.invokevirtual 48, 3) := by decide +kernel
theorem dX2_tryEarly_41 : decode cX2_tryEarly 41 = .ok (.istore 6, 2) := by decide +kernel
theorem dX2_tryEarly_43 : decode cX2_tryEarly 43 = .ok (.iconst 0, 1) := by decide +kernel
theorem dX2_tryEarly_44 : decode cX2_tryEarly 44 = .ok (.istore 7, 2) := by decide +kernel
theorem dX2_tryEarly_46 : decode cX2_tryEarly 46 = .ok (.iload 7, 2) := by decide +kernel
theorem dX2_tryEarly_48 : decode cX2_tryEarly 48 = .ok (.aload 5, 2) := by decide +kernel
theorem dX2_tryEarly_50 : decode cX2_tryEarly 50 = .ok (.getfield 45, 3) := by decide +kernel
theorem dX2_tryEarly_53 : decode cX2_tryEarly 53 = .ok (.getfield 54, 3) := by decide +kernel
theorem dX2_tryEarly_56 : decode cX2_tryEarly 56 = .ok (.if_icmp .gt 107, 3) := by decide +kernel
theorem dX2_tryEarly_59 : decode cX2_tryEarly 59 = .ok (.iload 7, 2) := by decide +kernel
theorem dX2_tryEarly_61 : decode cX2_tryEarly 61 = .ok (.istore 8, 2) := by decide +kernel
theorem dX2_tryEarly_63 : decode cX2_tryEarly 63 = .ok (.iload 8, 2) := by decide +kernel
theorem dX2_tryEarly_65 : decode cX2_tryEarly 65 = .ok (.aload 5, 2) := by decide +kernel
theorem dX2_tryEarly_67 : decode cX2_tryEarly 67 = .ok (.getfield 45, 3) := by decide +kernel
theorem dX2_tryEarly_70 : decode cX2_tryEarly 70 = .ok (.getfield 54, 3) := by decide +kernel
theorem dX2_tryEarly_73 : decode cX2_tryEarly 73 = .ok (.if_icmp .gt 84, 3) := by decide +kernel
theorem dX2_tryEarly_76 : decode cX2_tryEarly 76 = .ok (.aload_n 0, 1) := by decide +kernel
theorem dX2_tryEarly_77 : decode cX2_tryEarly 77 = .ok (.aload 5, 2) := by decide +kernel
theorem dX2_tryEarly_79 : decode cX2_tryEarly 79 = .ok (.getfield 45, 3) := by decide +kernel
theorem dX2_tryEarly_82 : decode cX2_tryEarly 82 = .ok (.iload_n 2, 1) := by decide +kernel
theorem dX2_tryEarly_83 : decode cX2_tryEarly 83 = .ok (.iload 7, 2) := by decide +kernel
theorem dX2_tryEarly_85 : decode cX2_tryEarly 85 = .ok (.iload 8, 2) := by decide +kernel
theorem dX2_tryEarly_87 : decode cX2_tryEarly 87 = .ok (.invokevirtual 57, 3) := by decide +kernel
theorem dX2_tryEarly_90 : decode cX2_tryEarly 90 = .ok (.aload_n 0, 1) := by decide +kernel
theorem dX2_tryEarly_91 : decode cX2_tryEarly 91 = .ok (.invokevirtual 81, 3) := by decide +kernel
theorem dX2_tryEarly_94 : decode cX2_tryEarly 94 = .ok (.ifCond .eq 13, 3) := by decide +kernel
theorem dX2_tryEarly_97 : decode cX2_tryEarly 97 = .ok (.iload 6, 2) := by decide +kernel
theorem dX2_tryEarly_99 : decode cX2_tryEarly 99 = .ok (.aload_n 0, 1) := by decide +kernel
theorem dX2_tryEarly_100 : decode cX2_tryEarly 100 = .ok (.getfield 74, 3) := by decide +kernel
theorem dX2_tryEarly_103 : decode cX2_tryEarly 103 = .ok (.iadd, 1) := by decide +kernel
theorem dX2_tryEarly_104 : decode cX2_tryEarly 104 = .ok (.goto 5, 3) := by decide +kernel
theorem dX2_tryEarly_107 : decode cX2_tryEarly 107 = .ok (.ldc 85, 2) := by decide +kernel
theorem dX2_tryEarly_109 : decode cX2_tryEarly 109 = .ok (.istore 9, 2) := by decide +kernel
theorem dX2_tryEarly_111 : decode cX2_tryEarly 111 = .ok (.aload_n 0, 1) := by decide +kernel
theorem dX2_tryEarly_112 : decode cX2_tryEarly 112 = .ok (.getfield 22, 3) := by decide +kernel
theorem dX2_tryEarly_115 : decode cX2_tryEarly 115 = .ok (.aload 5, 2) := by decide +kernel
theorem dX2_tryEarly_117 : decode cX2_tryEarly 117 = .ok (.aload_n 0, 1) := by decide +kernel
theorem dX2_tryEarly_118 : decode cX2_tryEarly 118 = .ok (.getfield 12, 3) := by decide +kernel
theorem dX2_tryEarly_121 : decode cX2_tryEarly 121 = .ok (.iload_n 3, 1) := by decide +kernel
theorem dX2_tryEarly_122 : decode cX2_tryEarly 122 = .ok (.iload 9, 2) := by decide +kernel
theorem dX2_tryEarly_124 : decode cX2_tryEarly 124 = .ok (.invokevirtual 86, 3) := by decide +kernel
theorem dX2_tryEarly_127 : decode cX2_tryEarly 127 = .ok (.iconst (-1), 1) := by decide +kernel
theorem dX2_tryEarly_128 : decode cX2_tryEarly 128 = .ok (.if_icmp .ne 23, 3) := by decide +kernel
theorem dX2_tryEarly_131 : decode cX2_tryEarly 131 = .ok (.aload_n 0, 1) := by decide +kernel
theorem dX2_tryEarly_132 : decode cX2_tryEarly 132 = .ok (.iload 4, 2) := by decide +kernel
theorem dX2_tryEarly_134 : decode cX2_tryEarly 134 = .ok (.iload 7, 2) := by decide +kernel
theorem dX2_tryEarly_136 : decode cX2_tryEarly 136 = .ok (.iload 8, 2) := by decide +kernel
theorem dX2_tryEarly_138 : decode cX2_tryEarly 138 = .ok (.aload_n 0, 1) := by decide +kernel
theorem dX2_tryEarly_139 : decode cX2_tryEarly 139 = .ok (.getfield 22, 3) := by decide +kernel
theorem dX2_tryEarly_142 : decode cX2_tryEarly 142 = .ok (.getfield 92, 3) := by decide +kernel
theorem dX2_tryEarly_145 : decode cX2_tryEarly 145 = .ok (.iload 6, 2) := by decide +kernel
theorem dX2_tryEarly_147 : decode cX2_tryEarly 147 = .ok (.isub, 1) := by decide +kernel
theorem dX2_tryEarly_148 : decode cX2_tryEarly 148 = .ok (.invokevirtual 77, 3) := by decide +kernel
theorem dX2_tryEarly_151 : decode cX2_tryEarly 151 = .ok (.iinc 8 1, 3) := by decide +kernel
theorem dX2_tryEarly_154 : decode cX2_tryEarly 154 = .ok (.goto (-91), 3) := by decide +kernel
theorem dX2_tryEarly_157 : decode cX2_tryEarly 157 = .ok (.iinc 7 1, 3) := by decide +kernel
theorem dX2_tryEarly_160 : decode cX2_tryEarly 160 = .ok (.goto (-114), 3) := by decide +kernel
theorem dX2_tryEarly_163 : decode cX2_tryEarly 163 = .ok (.iinc 4 1, 3) := by decide +kernel
theorem dX2_tryEarly_166 : decode cX2_tryEarly 166 = .ok (.goto (-159), 3) := by decide +kernel
theorem dX2_tryEarly_169 : decode cX2_tryEarly 169 = .ok (.return_, 1) := by decide +kernel
theorem dX2_layBest_0 : decode cX2_layBest 0 = .ok (.aload_n 0, 1) := by decide +kernel
theorem dX2_layBest_1 : decode cX2_layBest 1 = .ok (.aload_n 1, 1) := by decide +kernel
theorem dX2_layBest_2 : decode cX2_layBest 2 = .ok (.iload_n 2, 1) := by decide +kernel
theorem dX2_layBest_3 : decode cX2_layBest 3 = .ok (.aload_n 0, 1) := by decide +kernel
theorem dX2_layBest_4 : decode cX2_layBest 4 = .ok (.getfield 95, 3) := by decide +kernel
theorem dX2_layBest_7 : decode cX2_layBest 7 = .ok (.aload_n 0, 1) := by decide +kernel
theorem dX2_layBest_8 : decode cX2_layBest 8 = .ok (.getfield 98, 3) := by decide +kernel
theorem dX2_layBest_11 : decode cX2_layBest 11 = .ok (.invokevirtual 57, 3) := by decide +kernel
theorem dX2_layBest_14 : decode cX2_layBest 14 = .ok (.return_, 1) := by decide +kernel
theorem dX2_lay_0 : decode cX2_lay 0 = .ok (.aload_n 0, 1) := by decide +kernel
theorem dX2_lay_1 : decode cX2_lay 1 = .ok (.getfield 12, 3) := by decide +kernel
theorem dX2_lay_4 : decode cX2_lay 4 = .ok (.iconst 0, 1) := by decide +kernel
theorem dX2_lay_5 : decode cX2_lay 5 = .ok (.putfield 54, 3) := by decide +kernel
theorem dX2_lay_8 : decode cX2_lay 8 = .ok (.iconst 0, 1) := by decide +kernel
theorem dX2_lay_9 : decode cX2_lay 9 = .ok (.istore 5, 2) := by decide +kernel
theorem dX2_lay_11 : decode cX2_lay 11 = .ok (.iload 5, 2) := by decide +kernel
theorem dX2_lay_13 : decode cX2_lay 13 = .ok (.aload_n 1, 1) := by decide +kernel
theorem dX2_lay_14 : decode cX2_lay 14 = .ok (.getfield 54, 3) := by decide +kernel
theorem dX2_lay_17 : decode cX2_lay 17 = .ok (.if_icmp .gt 66, 3) := by decide +kernel
theorem dX2_lay_20 : decode cX2_lay 20 = .ok (.iload 5, 2) := by decide +kernel
theorem dX2_lay_22 : decode cX2_lay 22 = .ok (.iload_n 3, 1) := by decide +kernel
theorem dX2_lay_23 : decode cX2_lay 23 = .ok (.if_icmp .ne 14, 3) := by decide +kernel
theorem dX2_lay_26 : decode cX2_lay 26 = .ok (.aload_n 0, 1) := by decide +kernel
theorem dX2_lay_27 : decode cX2_lay 27 = .ok (.getfield 12, 3) := by decide +kernel
theorem dX2_lay_30 : decode cX2_lay 30 = .ok (.iload_n 2, 1) := by decide +kernel
theorem dX2_lay_31 : decode cX2_lay 31 = .ok (.invokestatic 101, 3) := by decide +kernel
theorem dX2_lay_34 : decode cX2_lay 34 = .ok (.invokevirtual 105, 3) := by decide +kernel
theorem dX2_lay_37 : decode cX2_lay 37 = .ok (.iload 5, 2) := by decide +kernel
theorem dX2_lay_39 : decode cX2_lay 39 = .ok (.iload 4, 2) := by decide +kernel
theorem dX2_lay_41 : decode cX2_lay 41 = .ok (.if_icmp .ne 14, 3) := by decide +kernel
theorem dX2_lay_44 : decode cX2_lay 44 = .ok (.aload_n 0, 1) := by decide +kernel
theorem dX2_lay_45 : decode cX2_lay 45 = .ok (.getfield 12, 3) := by decide +kernel
theorem dX2_lay_48 : decode cX2_lay 48 = .ok (.iload_n 2, 1) := by decide +kernel
theorem dX2_lay_49 : decode cX2_lay 49 = .ok (.invokestatic 109, 3) := by decide +kernel
theorem dX2_lay_52 : decode cX2_lay 52 = .ok (.invokevirtual 105, 3) := by decide +kernel
theorem dX2_lay_55 : decode cX2_lay 55 = .ok (.iload 5, 2) := by decide +kernel
theorem dX2_lay_57 : decode cX2_lay 57 = .ok (.aload_n 1, 1) := by decide +kernel
theorem dX2_lay_58 : decode cX2_lay 58 = .ok (.getfield 54, 3) := by decide +kernel
theorem dX2_lay_61 : decode cX2_lay 61 = .ok (.if_icmp .ge 16, 3) := by decide +kernel
theorem dX2_lay_64 : decode cX2_lay 64 = .ok (.aload_n 0, 1) := by decide +kernel
theorem dX2_lay_65 : decode cX2_lay 65 = .ok (.getfield 12, 3) := by decide +kernel
theorem dX2_lay_68 : decode cX2_lay 68 = .ok (.aload_n 1, 1) := by decide +kernel
theorem dX2_lay_69 : decode cX2_lay 69 = .ok (.iload 5, 2) := by decide +kernel
theorem dX2_lay_71 : decode cX2_lay 71 = .ok (.invokevirtual 112, 3) := by decide +kernel
theorem dX2_lay_74 : decode cX2_lay 74 = .ok (.invokevirtual 105, 3) := by decide +kernel
theorem dX2_lay_77 : decode cX2_lay 77 = .ok (.iinc 5 1, 3) := by decide +kernel
theorem dX2_lay_80 : decode cX2_lay 80 = .ok (.goto (-69), 3) := by decide +kernel
theorem dX2_lay_83 : decode cX2_lay 83 = .ok (.return_, 1) := by decide +kernel
theorem dX2_forget_0 : decode cX2_forget 0 = .ok (.aload_n 0, 1) := by decide +kernel
theorem dX2_forget_1 : decode cX2_forget 1 = .ok (.iconst (-1), 1) := by decide +kernel
theorem dX2_forget_2 : decode cX2_forget 2 = .ok (.putfield 26, 3) := by decide +kernel
theorem dX2_forget_5 : decode cX2_forget 5 = .ok (.aload_n 0, 1) := by decide +kernel
theorem dX2_forget_6 : decode cX2_forget 6 = .ok (.ldc 85, 2) := by decide +kernel
theorem dX2_forget_8 : decode cX2_forget 8 = .ok (.putfield 74, 3) := by decide +kernel
theorem dX2_forget_11 : decode cX2_forget 11 = .ok (.aload_n 0, 1) := by decide +kernel
theorem dX2_forget_12 : decode cX2_forget 12 = .ok (.iconst 1, 1) := by decide +kernel
theorem dX2_forget_13 : decode cX2_forget 13 = .ok (.putfield 65, 3) := by decide +kernel
theorem dX2_forget_16 : decode cX2_forget 16 = .ok (.return_, 1) := by decide +kernel
theorem dX2_keep_0 : decode cX2_keep 0 = .ok (.aload_n 0, 1) := by decide +kernel
theorem dX2_keep_1 : decode cX2_keep 1 = .ok (.iload_n 1, 1) := by decide +kernel
theorem dX2_keep_2 : decode cX2_keep 2 = .ok (.putfield 26, 3) := by decide +kernel
theorem dX2_keep_5 : decode cX2_keep 5 = .ok (.aload_n 0, 1) := by decide +kernel
theorem dX2_keep_6 : decode cX2_keep 6 = .ok (.iload_n 2, 1) := by decide +kernel
theorem dX2_keep_7 : decode cX2_keep 7 = .ok (.putfield 95, 3) := by decide +kernel
theorem dX2_keep_10 : decode cX2_keep 10 = .ok (.aload_n 0, 1) := by decide +kernel
theorem dX2_keep_11 : decode cX2_keep 11 = .ok (.iload_n 3, 1) := by decide +kernel
theorem dX2_keep_12 : decode cX2_keep 12 = .ok (.putfield 98, 3) := by decide +kernel
theorem dX2_keep_15 : decode cX2_keep 15 = .ok (.aload_n 0, 1) := by decide +kernel
theorem dX2_keep_16 : decode cX2_keep 16 = .ok (.iload 4, 2) := by decide +kernel
theorem dX2_keep_18 : decode cX2_keep 18 = .ok (.putfield 74, 3) := by decide +kernel
theorem dX2_keep_21 : decode cX2_keep 21 = .ok (.return_, 1) := by decide +kernel
theorem dX3_init_0 : decode cX3_init 0 = .ok (.aload_n 0, 1) := by decide +kernel
theorem dX3_init_1 : decode cX3_init 1 = .ok (.invokespecial 3, 3) := by decide +kernel
theorem dX3_init_4 : decode cX3_init 4 = .ok (.aload_n 0, 1) := by decide +kernel
theorem dX3_init_5 : decode cX3_init 5 = .ok (.bipush 8, 2) := by decide +kernel
theorem dX3_init_7 : decode cX3_init 7 = .ok (.newarray .int, 2) := by decide +kernel
theorem dX3_init_9 : decode cX3_init 9 = .ok (.putfield 9, 3) := by decide +kernel
theorem dX3_init_12 : decode cX3_init 12 = .ok (.aload_n 0, 1) := by decide +kernel
theorem dX3_init_13 : decode cX3_init 13 = .ok (.aload_n 1, 1) := by decide +kernel
theorem dX3_init_14 : decode cX3_init 14 = .ok (.putfield 15, 3) := by decide +kernel
theorem dX3_init_17 : decode cX3_init 17 = .ok (.return_, 1) := by decide +kernel
theorem dX3_lengthOf_0 : decode cX3_lengthOf 0 = .ok (.aload_n 1, 1) := by decide +kernel
theorem dX3_lengthOf_1 : decode cX3_lengthOf 1 = .ok (.getfield 19, 3) := by decide +kernel
theorem dX3_lengthOf_4 : decode cX3_lengthOf 4 = .ok (.istore_n 3, 1) := by decide +kernel
theorem dX3_lengthOf_5 : decode cX3_lengthOf 5 = .ok (.aload_n 1, 1) := by decide +kernel
theorem dX3_lengthOf_6 : decode cX3_lengthOf 6 = .ok (.getfield 25, 3) := by decide +kernel
theorem dX3_lengthOf_9 : decode cX3_lengthOf 9 = .ok (.istore 4, 2) := by decide +kernel
theorem dX3_lengthOf_11 : decode cX3_lengthOf 11 = .ok (.iconst 0, 1) := by decide +kernel
theorem dX3_lengthOf_12 : decode cX3_lengthOf 12 = .ok (.istore 5, 2) := by decide +kernel
theorem dX3_lengthOf_14 : decode cX3_lengthOf 14 = .ok (.iconst 0, 1) := by decide +kernel
theorem dX3_lengthOf_15 : decode cX3_lengthOf 15 = .ok (.istore 6, 2) := by decide +kernel
theorem dX3_lengthOf_17 : decode cX3_lengthOf 17 = .ok (.iload 6, 2) := by decide +kernel
theorem dX3_lengthOf_19 : decode cX3_lengthOf 19 = .ok (.aload_n 2, 1) := by decide +kernel
theorem dX3_lengthOf_20 : decode cX3_lengthOf 20 = .ok (.getfield 28, 3) := by decide +kernel
theorem dX3_lengthOf_23 : decode cX3_lengthOf 23 = .ok (.if_icmp .ge 55, 3) := by decide +kernel
theorem dX3_lengthOf_26 : decode cX3_lengthOf 26 = .ok (.aload_n 2, 1) := by decide +kernel
theorem dX3_lengthOf_27 : decode cX3_lengthOf 27 = .ok (.iload 6, 2) := by decide +kernel
theorem dX3_lengthOf_29 : decode cX3_lengthOf 29 = .ok (.invokevirtual 33, 3) := by decide +kernel
theorem dX3_lengthOf_32 : decode cX3_lengthOf 32 = .ok (.istore 7, 2) := by decide +kernel
theorem dX3_lengthOf_34 : decode cX3_lengthOf 34 = .ok (.iload 5, 2) := by decide +kernel
theorem dX3_lengthOf_36 : decode cX3_lengthOf 36 = .ok (.aload_n 0, 1) := by decide +kernel
theorem dX3_lengthOf_37 : decode cX3_lengthOf 37 = .ok (.getfield 15, 3) := by decide +kernel
theorem dX3_lengthOf_40 : decode cX3_lengthOf 40 = .ok (.iload 7, 2) := by decide +kernel
theorem dX3_lengthOf_42 : decode cX3_lengthOf 42 = .ok (.iload_n 3, 1) := by decide +kernel
theorem dX3_lengthOf_43 : decode cX3_lengthOf 43 = .ok (.iload 4, 2) := by decide +kernel
theorem dX3_lengthOf_45 : decode cX3_lengthOf 45 = .ok (.invokevirtual 37, 3) := by decide +kernel
theorem dX3_lengthOf_48 : decode cX3_lengthOf 48 = .ok (.iadd, 1) := by decide +kernel
theorem dX3_lengthOf_49 : decode cX3_lengthOf 49 = .ok (.istore 5, 2) := by decide +kernel
theorem dX3_lengthOf_51 : decode cX3_lengthOf 51 = .ok (.aload_n 0, 1) := by decide +kernel
theorem dX3_lengthOf_52 : decode cX3_lengthOf 52 = .ok (.getfield 15, 3) := by decide +kernel
theorem dX3_lengthOf_55 : decode cX3_lengthOf 55 = .ok (.iload 7, 2) := by decide +kernel
theorem dX3_lengthOf_57 : decode cX3_lengthOf 57 = .ok (.invokevirtual 43, 3) := by decide +kernel
theorem dX3_lengthOf_60 : decode cX3_lengthOf 60 = .ok (.istore_n 3, 1) := by decide +kernel
theorem dX3_lengthOf_61 : decode cX3_lengthOf 61 = .ok (.aload_n 0, 1) := by decide +kernel
theorem dX3_lengthOf_62 : decode cX3_lengthOf 62 = .ok (.getfield 15, 3) := by decide +kernel
theorem dX3_lengthOf_65 : decode cX3_lengthOf 65 = .ok (.iload 7, 2) := by decide +kernel
theorem dX3_lengthOf_67 : decode cX3_lengthOf 67 = .ok (.invokevirtual 46, 3) := by decide +kernel
theorem dX3_lengthOf_70 : decode cX3_lengthOf 70 = .ok (.istore 4, 2) := by decide +kernel
theorem dX3_lengthOf_72 : decode cX3_lengthOf 72 = .ok (.iinc 6 1, 3) := by decide +kernel
theorem dX3_lengthOf_75 : decode cX3_lengthOf 75 = .ok (.goto (-58), 3) := by decide +kernel
theorem dX3_lengthOf_78 : decode cX3_lengthOf 78 = .ok (.iload 5, 2) := by decide +kernel
theorem dX3_lengthOf_80 : decode cX3_lengthOf 80 = .ok (.iload_n 3, 1) := by decide +kernel
theorem dX3_lengthOf_81 : decode cX3_lengthOf 81 = .ok (.iload 4, 2) := by decide +kernel
theorem dX3_lengthOf_83 : decode cX3_lengthOf 83 = .ok (.aload_n 1, 1) := by decide +kernel
theorem dX3_lengthOf_84 : decode cX3_lengthOf 84 = .ok (.getfield 49, 3) := by decide +kernel
theorem dX3_lengthOf_87 : decode cX3_lengthOf 87 = .ok (.aload_n 1, 1) := by decide +kernel
theorem dX3_lengthOf_88 : decode cX3_lengthOf 88 = .ok (.getfield 52, 3) := by decide +kernel
theorem dX3_lengthOf_91 : decode cX3_lengthOf 91 = .ok (.invokestatic 55, 3) := by decide +kernel
theorem dX3_lengthOf_94 : decode cX3_lengthOf 94 = .ok (.iadd, 1) := by decide +kernel
theorem dX3_lengthOf_95 : decode cX3_lengthOf 95 = .ok (.ireturn, 1) := by decide +kernel
theorem dX3_clock_0 : decode cX3_clock 0 = .ok (.aload_n 1, 1) := by decide +kernel
theorem dX3_clock_1 : decode cX3_clock 1 = .ok (.getfield 19, 3) := by decide +kernel
theorem dX3_clock_4 : decode cX3_clock 4 = .ok (.istore 4, 2) := by decide +kernel
theorem dX3_clock_6 : decode cX3_clock 6 = .ok (.aload_n 1, 1) := by decide +kernel
theorem dX3_clock_7 : decode cX3_clock 7 = .ok (.getfield 25, 3) := by decide +kernel
theorem dX3_clock_10 : decode cX3_clock 10 = .ok (.istore 5, 2) := by decide +kernel
theorem dX3_clock_12 : decode cX3_clock 12 = .ok (.iload_n 3, 1) := by decide +kernel
theorem dX3_clock_13 : decode cX3_clock 13 = .ok (.istore 6, 2) := by decide +kernel
theorem dX3_clock_15 : decode cX3_clock 15 = .ok (.iconst 0, 1) := by decide +kernel
theorem dX3_clock_16 : decode cX3_clock 16 = .ok (.istore 7, 2) := by decide +kernel
theorem dX3_clock_18 : decode cX3_clock 18 = .ok (.iload 7, 2) := by decide +kernel
theorem dX3_clock_20 : decode cX3_clock 20 = .ok (.aload_n 2, 1) := by decide +kernel
theorem dX3_clock_21 : decode cX3_clock 21 = .ok (.getfield 28, 3) := by decide +kernel
theorem dX3_clock_24 : decode cX3_clock 24 = .ok (.if_icmp .ge 76, 3) := by decide +kernel
theorem dX3_clock_27 : decode cX3_clock 27 = .ok (.iload 7, 2) := by decide +kernel
theorem dX3_clock_29 : decode cX3_clock 29 = .ok (.aload_n 0, 1) := by decide +kernel
theorem dX3_clock_30 : decode cX3_clock 30 = .ok (.getfield 9, 3) := by decide +kernel
theorem dX3_clock_33 : decode cX3_clock 33 = .ok (.arraylength, 1) := by decide +kernel
theorem dX3_clock_34 : decode cX3_clock 34 = .ok (.if_icmp .ge 66, 3) := by decide +kernel
theorem dX3_clock_37 : decode cX3_clock 37 = .ok (.aload_n 2, 1) := by decide +kernel
theorem dX3_clock_38 : decode cX3_clock 38 = .ok (.iload 7, 2) := by decide +kernel
theorem dX3_clock_40 : decode cX3_clock 40 = .ok (.invokevirtual 33, 3) := by decide +kernel
theorem dX3_clock_43 : decode cX3_clock 43 = .ok (.istore 8, 2) := by decide +kernel
theorem dX3_clock_45 : decode cX3_clock 45 = .ok (.iload 6, 2) := by decide +kernel
theorem dX3_clock_47 : decode cX3_clock 47 = .ok (.aload_n 0, 1) := by decide +kernel
theorem dX3_clock_48 : decode cX3_clock 48 = .ok (.getfield 15, 3) := by decide +kernel
theorem dX3_clock_51 : decode cX3_clock 51 = .ok (.iload 8, 2) := by decide +kernel
theorem dX3_clock_53 : decode cX3_clock 53 = .ok (.iload 4, 2) := by decide +kernel
theorem dX3_clock_55 : decode cX3_clock 55 = .ok (.iload 5, 2) := by decide +kernel
theorem dX3_clock_57 : decode cX3_clock 57 = .ok (.invokevirtual 37, 3) := by decide +kernel
theorem dX3_clock_60 : decode cX3_clock 60 = .ok (.iadd, 1) := by decide +kernel
theorem dX3_clock_61 : decode cX3_clock 61 = .ok (.istore 6, 2) := by decide +kernel
theorem dX3_clock_63 : decode cX3_clock 63 = .ok (.aload_n 0, 1) := by decide +kernel
theorem dX3_clock_64 : decode cX3_clock 64 = .ok (.getfield 9, 3) := by decide +kernel
theorem dX3_clock_67 : decode cX3_clock 67 = .ok (.iload 7, 2) := by decide +kernel
theorem dX3_clock_69 : decode cX3_clock 69 = .ok (.iload 6, 2) := by decide +kernel
theorem dX3_clock_71 : decode cX3_clock 71 = .ok (.iastore, 1) := by decide +kernel
theorem dX3_clock_72 : decode cX3_clock 72 = .ok (.aload_n 0, 1) := by decide +kernel
theorem dX3_clock_73 : decode cX3_clock 73 = .ok (.getfield 15, 3) := by decide +kernel
theorem dX3_clock_76 : decode cX3_clock 76 = .ok (.iload 8, 2) := by decide +kernel
theorem dX3_clock_78 : decode cX3_clock 78 = .ok (.invokevirtual 43, 3) := by decide +kernel
theorem dX3_clock_81 : decode cX3_clock 81 = .ok (.istore 4, 2) := by decide +kernel
theorem dX3_clock_83 : decode cX3_clock 83 = .ok (.aload_n 0, 1) := by decide +kernel
theorem dX3_clock_84 : decode cX3_clock 84 = .ok (.getfield 15, 3) := by decide +kernel
theorem dX3_clock_87 : decode cX3_clock 87 = .ok (.iload 8, 2) := by decide +kernel
theorem dX3_clock_89 : decode cX3_clock 89 = .ok (.invokevirtual 46, 3) := by decide +kernel
theorem dX3_clock_92 : decode cX3_clock 92 = .ok (.istore 5, 2) := by decide +kernel
theorem dX3_clock_94 : decode cX3_clock 94 = .ok (.iinc 7 1, 3) := by decide +kernel
theorem dX3_clock_97 : decode cX3_clock 97 = .ok (.goto (-79), 3) := by decide +kernel
theorem dX3_clock_100 : decode cX3_clock 100 = .ok (.return_, 1) := by decide +kernel
theorem dX3_timeAt_0 : decode cX3_timeAt 0 = .ok (.iload_n 1, 1) := by decide +kernel
theorem dX3_timeAt_1 : decode cX3_timeAt 1 = .ok (.ifCond .lt 21, 3) := by decide +kernel
theorem dX3_timeAt_4 : decode cX3_timeAt 4 = .ok (.iload_n 1, 1) := by decide +kernel
theorem dX3_timeAt_5 : decode cX3_timeAt 5 = .ok (.aload_n 0, 1) := by decide +kernel
theorem dX3_timeAt_6 : decode cX3_timeAt 6 = .ok (.getfield 9, 3) := by decide +kernel
theorem dX3_timeAt_9 : decode cX3_timeAt 9 = .ok (.arraylength, 1) := by decide +kernel
theorem dX3_timeAt_10 : decode cX3_timeAt 10 = .ok (.if_icmp .ge 12, 3) := by decide +kernel
theorem dX3_timeAt_13 : decode cX3_timeAt 13 = .ok (.aload_n 0, 1) := by decide +kernel
theorem dX3_timeAt_14 : decode cX3_timeAt 14 = .ok (.getfield 9, 3) := by decide +kernel
theorem dX3_timeAt_17 : decode cX3_timeAt 17 = .ok (.iload_n 1, 1) := by decide +kernel
theorem dX3_timeAt_18 : decode cX3_timeAt 18 = .ok (.iaload, 1) := by decide +kernel
theorem dX3_timeAt_19 : decode cX3_timeAt 19 = .ok (.goto 4, 3) := by decide +kernel
theorem dX3_timeAt_22 : decode cX3_timeAt 22 = .ok (.iconst (-1), 1) := by decide +kernel
theorem dX3_timeAt_23 : decode cX3_timeAt 23 = .ok (.ireturn, 1) := by decide +kernel
theorem dX3_faultOf_0 : decode cX3_faultOf 0 = .ok (.aload_n 0, 1) := by decide +kernel
theorem dX3_faultOf_1 : decode cX3_faultOf 1 = .ok (.aload_n 1, 1) := by decide +kernel
theorem dX3_faultOf_2 : decode cX3_faultOf 2 = .ok (.aload_n 2, 1) := by decide +kernel
theorem dX3_faultOf_3 : decode cX3_faultOf 3 = .ok (.iload_n 3, 1) := by decide +kernel
theorem dX3_faultOf_4 : decode cX3_faultOf 4 = .ok (.invokevirtual 59, 3) := by decide +kernel
theorem dX3_faultOf_7 : decode cX3_faultOf 7 = .ok (.aload_n 2, 1) := by decide +kernel
theorem dX3_faultOf_8 : decode cX3_faultOf 8 = .ok (.getfield 28, 3) := by decide +kernel
theorem dX3_faultOf_11 : decode cX3_faultOf 11 = .ok (.bipush 6, 2) := by decide +kernel
theorem dX3_faultOf_13 : decode cX3_faultOf 13 = .ok (.if_icmp .gt 12, 3) := by decide +kernel
theorem dX3_faultOf_16 : decode cX3_faultOf 16 = .ok (.aload_n 0, 1) := by decide +kernel
theorem dX3_faultOf_17 : decode cX3_faultOf 17 = .ok (.aload_n 1, 1) := by decide +kernel
theorem dX3_faultOf_18 : decode cX3_faultOf 18 = .ok (.aload_n 2, 1) := by decide +kernel
theorem dX3_faultOf_19 : decode cX3_faultOf 19 = .ok (.invokevirtual 63, 3) := by decide +kernel
theorem dX3_faultOf_22 : decode cX3_faultOf 22 = .ok (.ifCond .eq 5, 3) := by decide +kernel
theorem dX3_faultOf_25 : decode cX3_faultOf 25 = .ok (.iconst 1, 1) := by decide +kernel
theorem dX3_faultOf_26 : decode cX3_faultOf 26 = .ok (.ireturn, 1) := by decide +kernel
theorem dX3_faultOf_27 : decode cX3_faultOf 27 = .ok (.aload_n 0, 1) := by decide +kernel
theorem dX3_faultOf_28 : decode cX3_faultOf 28 = .ok (.aload_n 2, 1) := by decide +kernel
theorem dX3_faultOf_29 : decode cX3_faultOf 29 = .ok (.invokevirtual 67, 3) := by decide +kernel
theorem dX3_faultOf_32 : decode cX3_faultOf 32 = .ok (.ifCond .eq 5, 3) := by decide +kernel
theorem dX3_faultOf_35 : decode cX3_faultOf 35 = .ok (.iconst 2, 1) := by decide +kernel
theorem dX3_faultOf_36 : decode cX3_faultOf 36 = .ok (.ireturn, 1) := by decide +kernel
theorem dX3_faultOf_37 : decode cX3_faultOf 37 = .ok (.aload_n 0, 1) := by decide +kernel
theorem dX3_faultOf_38 : decode cX3_faultOf 38 = .ok (.aload_n 2, 1) := by decide +kernel
theorem dX3_faultOf_39 : decode cX3_faultOf 39 = .ok (.invokevirtual 71, 3) := by decide +kernel
theorem dX3_faultOf_42 : decode cX3_faultOf 42 = .ok (.ifCond .eq 5, 3) := by decide +kernel
theorem dX3_faultOf_45 : decode cX3_faultOf 45 = .ok (.iconst 3, 1) := by decide +kernel
theorem dX3_faultOf_46 : decode cX3_faultOf 46 = .ok (.ireturn, 1) := by decide +kernel
theorem dX3_faultOf_47 : decode cX3_faultOf 47 = .ok (.aload_n 0, 1) := by decide +kernel
theorem dX3_faultOf_48 : decode cX3_faultOf 48 = .ok (.aload_n 1, 1) := by decide +kernel
theorem dX3_faultOf_49 : decode cX3_faultOf 49 = .ok (.aload_n 2, 1) := by decide +kernel
theorem dX3_faultOf_50 : decode cX3_faultOf 50 = .ok (.invokevirtual 74, 3) := by decide +kernel
theorem dX3_faultOf_53 : decode cX3_faultOf 53 = .ok (.aload_n 1, 1) := by decide +kernel
theorem dX3_faultOf_54 : decode cX3_faultOf 54 = .ok (.getfield 78, 3) := by decide +kernel
theorem dX3_faultOf_57 : decode cX3_faultOf 57 = .ok (.if_icmp .le 7, 3) := by decide +kernel
theorem dX3_faultOf_60 : decode cX3_faultOf 60 = .ok (.iconst 4, 1) := by decide +kernel
theorem dX3_faultOf_61 : decode cX3_faultOf 61 = .ok (.goto 4, 3) := by decide +kernel
theorem dX3_faultOf_64 : decode cX3_faultOf 64 = .ok (.iconst 0, 1) := by decide +kernel
theorem dX3_faultOf_65 : decode cX3_faultOf 65 = .ok (.ireturn, 1) := by decide +kernel
theorem dX3_lacksSeats_0 : decode cX3_lacksSeats 0 = .ok (.aload_n 1, 1) := by decide +kernel
theorem dX3_lacksSeats_1 : decode cX3_lacksSeats 1 = .ok (.getfield 81, 3) := by decide +kernel
theorem dX3_lacksSeats_4 : decode cX3_lacksSeats 4 = .ok (.istore_n 3, 1) := by decide +kernel
theorem dX3_lacksSeats_5 : decode cX3_lacksSeats 5 = .ok (.iconst 0, 1) := by decide +kernel
theorem dX3_lacksSeats_6 : decode cX3_lacksSeats 6 = .ok (.istore 4, 2) := by decide +kernel
theorem dX3_lacksSeats_8 : decode cX3_lacksSeats 8 = .ok (.iload 4, 2) := by decide +kernel
theorem dX3_lacksSeats_10 : decode cX3_lacksSeats 10 = .ok (.aload_n 2, 1) := by decide +kernel
theorem dX3_lacksSeats_11 : decode cX3_lacksSeats 11 = .ok (.getfield 28, 3) := by decide +kernel
theorem dX3_lacksSeats_14 : decode cX3_lacksSeats 14 = .ok (.if_icmp .ge 63, 3) := by decide +kernel
theorem dX3_lacksSeats_17 : decode cX3_lacksSeats 17 = .ok (.aload_n 2, 1) := by decide +kernel
theorem dX3_lacksSeats_18 : decode cX3_lacksSeats 18 = .ok (.iload 4, 2) := by decide +kernel
theorem dX3_lacksSeats_20 : decode cX3_lacksSeats 20 = .ok (.invokevirtual 33, 3) := by decide +kernel
theorem dX3_lacksSeats_23 : decode cX3_lacksSeats 23 = .ok (.istore 5, 2) := by decide +kernel
theorem dX3_lacksSeats_25 : decode cX3_lacksSeats 25 = .ok (.aload_n 0, 1) := by decide +kernel
theorem dX3_lacksSeats_26 : decode cX3_lacksSeats 26 = .ok (.getfield 15, 3) := by decide +kernel
theorem dX3_lacksSeats_29 : decode cX3_lacksSeats 29 = .ok (.iload 5, 2) := by decide +kernel
theorem dX3_lacksSeats_31 : decode cX3_lacksSeats 31 = .ok (.invokestatic 84, 3) := by decide +kernel
theorem dX3_lacksSeats_34 : decode cX3_lacksSeats 34 = .ok (.invokevirtual 87, 3) := by decide +kernel
theorem dX3_lacksSeats_37 : decode cX3_lacksSeats 37 = .ok (.getfield 91, 3) := by decide +kernel
theorem dX3_lacksSeats_40 : decode cX3_lacksSeats 40 = .ok (.istore 6, 2) := by decide +kernel
theorem dX3_lacksSeats_42 : decode cX3_lacksSeats 42 = .ok (.iload_n 3, 1) := by decide +kernel
theorem dX3_lacksSeats_43 : decode cX3_lacksSeats 43 = .ok (.iload 5, 2) := by decide +kernel
theorem dX3_lacksSeats_45 : decode cX3_lacksSeats 45 = .ok (.invokestatic 96, 3) := by decide +kernel
theorem dX3_lacksSeats_48 : decode cX3_lacksSeats 48 = .ok (.ifCond .eq 8, 3) := by decide +kernel
theorem dX3_lacksSeats_51 : decode cX3_lacksSeats 51 = .ok (.iload 6, 2) := by decide +kernel
theorem dX3_lacksSeats_53 : decode cX3_lacksSeats 53 = .ok (.goto 6, 3) := by decide +kernel
theorem dX3_lacksSeats_56 : decode cX3_lacksSeats 56 = .ok (.iload 6, 2) := by decide +kernel
theorem dX3_lacksSeats_58 : decode cX3_lacksSeats 58 = .ok (.ineg, 1) := by decide +kernel
theorem dX3_lacksSeats_59 : decode cX3_lacksSeats 59 = .ok (.iadd, 1) := by decide +kernel
theorem dX3_lacksSeats_60 : decode cX3_lacksSeats 60 = .ok (.istore_n 3, 1) := by decide +kernel
theorem dX3_lacksSeats_61 : decode cX3_lacksSeats 61 = .ok (.iload_n 3, 1) := by decide +kernel
theorem dX3_lacksSeats_62 : decode cX3_lacksSeats 62 = .ok (.aload_n 1, 1) := by decide +kernel
theorem dX3_lacksSeats_63 : decode cX3_lacksSeats 63 = .ok (.getfield 100, 3) := by decide +kernel
theorem dX3_lacksSeats_66 : decode cX3_lacksSeats 66 = .ok (.if_icmp .le 5, 3) := by decide +kernel
theorem dX3_lacksSeats_69 : decode cX3_lacksSeats 69 = .ok (.iconst 1, 1) := by decide +kernel
theorem dX3_lacksSeats_70 : decode cX3_lacksSeats 70 = .ok (.ireturn, 1) := by decide +kernel
theorem dX3_lacksSeats_71 : decode cX3_lacksSeats 71 = .ok (.iinc 4 1, 3) := by decide +kernel
theorem dX3_lacksSeats_74 : decode cX3_lacksSeats 74 = .ok (.goto (-66), 3) := by decide +kernel
theorem dX3_lacksSeats_77 : decode cX3_lacksSeats 77 = .ok (.iconst 0, 1) := by decide +kernel
theorem dX3_lacksSeats_78 : decode cX3_lacksSeats 78 = .ok (.ireturn, 1) := by decide +kernel
theorem dX3_comesLate_0 : decode cX3_comesLate 0 = .ok (.iconst 0, 1) := by decide +kernel
theorem dX3_comesLate_1 : decode cX3_comesLate 1 = .ok (.istore_n 2, 1) := by decide +kernel
theorem dX3_comesLate_2 : decode cX3_comesLate 2 = .ok (.iload_n 2, 1) := by decide +kernel
theorem dX3_comesLate_3 : decode cX3_comesLate 3 = .ok (.aload_n 1, 1) := by decide +kernel
theorem dX3_comesLate_4 : decode cX3_comesLate 4 = .ok (.getfield 28, 3) := by decide +kernel
theorem dX3_comesLate_7 : decode cX3_comesLate 7 = .ok (.if_icmp .ge 46, 3) := by decide +kernel
theorem dX3_comesLate_10 : decode cX3_comesLate 10 = .ok (.aload_n 1, 1) := by decide +kernel
theorem dX3_comesLate_11 : decode cX3_comesLate 11 = .ok (.iload_n 2, 1) := by decide +kernel
theorem dX3_comesLate_12 : decode cX3_comesLate 12 = .ok (.invokevirtual 33, 3) := by decide +kernel
theorem dX3_comesLate_15 : decode cX3_comesLate 15 = .ok (.istore_n 3, 1) := by decide +kernel
theorem dX3_comesLate_16 : decode cX3_comesLate 16 = .ok (.iload_n 3, 1) := by decide +kernel
theorem dX3_comesLate_17 : decode cX3_comesLate 17 = .ok (.invokestatic 96, 3) := by decide +kernel
theorem dX3_comesLate_20 : decode cX3_comesLate 20 = .ok (.ifCond .eq 27, 3) := by decide +kernel
theorem dX3_comesLate_23 : decode cX3_comesLate 23 = .ok (.aload_n 0, 1) := by decide +kernel
theorem dX3_comesLate_24 : decode cX3_comesLate 24 = .ok (.iload_n 2, 1) := by decide +kernel
theorem dX3_comesLate_25 : decode cX3_comesLate 25 = .ok (.invokevirtual 103, 3) := by decide +kernel
theorem dX3_comesLate_28 : decode cX3_comesLate 28 = .ok (.aload_n 0, 1) := by decide +kernel
theorem dX3_comesLate_29 : decode cX3_comesLate 29 = .ok (.getfield 15, 3) := by decide +kernel
theorem dX3_comesLate_32 : decode cX3_comesLate 32 = .ok (.iload_n 3, 1) := by decide +kernel
theorem dX3_comesLate_33 : decode cX3_comesLate 33 = .ok (.invokestatic 84, 3) := by decide +kernel
theorem dX3_comesLate_36 : decode cX3_comesLate 36 = .ok (.invokevirtual 87, 3) := by decide +kernel
theorem dX3_comesLate_39 : decode cX3_comesLate 39 = .ok (.getfield 106, 3) := by decide +kernel
theorem dX3_comesLate_42 : decode cX3_comesLate 42 = .ok (.if_icmp .le 5, 3) := by decide +kernel
theorem dX3_comesLate_45 : decode cX3_comesLate 45 = .ok (.iconst 1, 1) := by decide +kernel
theorem dX3_comesLate_46 : decode cX3_comesLate 46 = .ok (.ireturn, 1) := by decide +kernel
theorem dX3_comesLate_47 : decode cX3_comesLate 47 = .ok (.iinc 2 1, 3) := by decide +kernel
theorem dX3_comesLate_50 : decode cX3_comesLate 50 = .ok (.goto (-48), 3) := by decide +kernel
theorem dX3_comesLate_53 : decode cX3_comesLate 53 = .ok (.iconst 0, 1) := by decide +kernel
theorem dX3_comesLate_54 : decode cX3_comesLate 54 = .ok (.ireturn, 1) := by decide +kernel
theorem dX3_ridesLong_0 : decode cX3_ridesLong 0 = .ok (.iconst 0, 1) := by decide +kernel
theorem dX3_ridesLong_1 : decode cX3_ridesLong 1 = .ok (.istore_n 2, 1) := by decide +kernel
theorem dX3_ridesLong_2 : decode cX3_ridesLong 2 = .ok (.iload_n 2, 1) := by decide +kernel
theorem dX3_ridesLong_3 : decode cX3_ridesLong 3 = .ok (.aload_n 1, 1) := by decide +kernel
theorem dX3_ridesLong_4 : decode cX3_ridesLong 4 = .ok (.getfield 28, 3) := by decide +kernel
theorem dX3_ridesLong_7 : decode cX3_ridesLong 7 = .ok (.if_icmp .ge 87, 3) := by decide +kernel
theorem dX3_ridesLong_10 : decode cX3_ridesLong 10 = .ok (.aload_n 1, 1) := by decide +kernel
theorem dX3_ridesLong_11 : decode cX3_ridesLong 11 = .ok (.iload_n 2, 1) := by decide +kernel
theorem dX3_ridesLong_12 : decode cX3_ridesLong 12 = .ok (.invokevirtual 33, 3) := by decide +kernel
theorem dX3_ridesLong_15 : decode cX3_ridesLong 15 = .ok (.istore_n 3, 1) := by decide +kernel
theorem dX3_ridesLong_16 : decode cX3_ridesLong 16 = .ok (.iload_n 3, 1) := by decide +kernel
theorem dX3_ridesLong_17 : decode cX3_ridesLong 17 = .ok (.invokestatic 96, 3) := by decide +kernel
theorem dX3_ridesLong_20 : decode cX3_ridesLong 20 = .ok (.ifCond .ne 68, 3) := by decide +kernel
theorem dX3_ridesLong_23 : decode cX3_ridesLong 23 = .ok (.aload_n 0, 1) := by decide +kernel
theorem dX3_ridesLong_24 : decode cX3_ridesLong 24 = .ok (.getfield 15, 3) := by decide +kernel
theorem dX3_ridesLong_27 : decode cX3_ridesLong 27 = .ok (.iload_n 3, 1) := by decide +kernel
theorem dX3_ridesLong_28 : decode cX3_ridesLong 28 = .ok (.invokestatic 84, 3) := by decide +kernel
theorem dX3_ridesLong_31 : decode cX3_ridesLong 31 = .ok (.invokevirtual 87, 3) := by decide +kernel
theorem dX3_ridesLong_34 : decode cX3_ridesLong 34 = .ok (.astore 4, 2) := by decide +kernel
theorem dX3_ridesLong_36 : decode cX3_ridesLong 36 = .ok (.aload_n 1, 1) := by decide +kernel
theorem dX3_ridesLong_37 : decode cX3_ridesLong 37 = .ok (.iload_n 3, 1) := by decide +kernel
theorem dX3_ridesLong_38 : decode cX3_ridesLong 38 = .ok (.invokestatic 84, 3) := by decide +kernel
theorem dX3_ridesLong_41 : decode cX3_ridesLong 41 = .ok (.invokestatic 109, 3) := by decide +kernel
theorem dX3_ridesLong_44 : decode cX3_ridesLong 44 = .ok (.invokevirtual 112, 3) := by decide +kernel
theorem dX3_ridesLong_47 : decode cX3_ridesLong 47 = .ok (.istore 5, 2) := by decide +kernel
theorem dX3_ridesLong_49 : decode cX3_ridesLong 49 = .ok (.iload 5, 2) := by decide +kernel
theorem dX3_ridesLong_51 : decode cX3_ridesLong 51 = .ok (.ifCond .lt 12, 3) := by decide +kernel
theorem dX3_ridesLong_54 : decode cX3_ridesLong 54 = .ok (.aload_n 0, 1) := by decide +kernel
theorem dX3_ridesLong_55 : decode cX3_ridesLong 55 = .ok (.iload 5, 2) := by decide +kernel
theorem dX3_ridesLong_57 : decode cX3_ridesLong 57 = .ok (.invokevirtual 103, 3) := by decide +kernel
theorem dX3_ridesLong_60 : decode cX3_ridesLong 60 = .ok (.goto 8, 3) := by decide +kernel
theorem dX3_ridesLong_63 : decode cX3_ridesLong 63 = .ok (.aload 4, 2) := by decide +kernel
theorem dX3_ridesLong_65 : decode cX3_ridesLong 65 = .ok (.getfield 115, 3) := by decide +kernel
theorem dX3_ridesLong_68 : decode cX3_ridesLong 68 = .ok (.istore 6, 2) := by decide +kernel
theorem dX3_ridesLong_70 : decode cX3_ridesLong 70 = .ok (.aload_n 0, 1) := by decide +kernel
theorem dX3_ridesLong_71 : decode cX3_ridesLong 71 = .ok (.iload_n 2, 1) := by decide +kernel
theorem dX3_ridesLong_72 : decode cX3_ridesLong 72 = .ok (.invokevirtual 103, 3) := by decide +kernel
theorem dX3_ridesLong_75 : decode cX3_ridesLong 75 = .ok (.iload 6, 2) := by decide +kernel
theorem dX3_ridesLong_77 : decode cX3_ridesLong 77 = .ok (.isub, 1) := by decide +kernel
theorem dX3_ridesLong_78 : decode cX3_ridesLong 78 = .ok (.aload 4, 2) := by decide +kernel
theorem dX3_ridesLong_80 : decode cX3_ridesLong 80 = .ok (.getfield 118, 3) := by decide +kernel
theorem dX3_ridesLong_83 : decode cX3_ridesLong 83 = .ok (.if_icmp .le 5, 3) := by decide +kernel
theorem dX3_ridesLong_86 : decode cX3_ridesLong 86 = .ok (.iconst 1, 1) := by decide +kernel
theorem dX3_ridesLong_87 : decode cX3_ridesLong 87 = .ok (.ireturn, 1) := by decide +kernel
theorem dX3_ridesLong_88 : decode cX3_ridesLong 88 = .ok (.iinc 2 1, 3) := by decide +kernel
theorem dX3_ridesLong_91 : decode cX3_ridesLong 91 = .ok (.goto (-89), 3) := by decide +kernel
theorem dX3_ridesLong_94 : decode cX3_ridesLong 94 = .ok (.iconst 0, 1) := by decide +kernel
theorem dX3_ridesLong_95 : decode cX3_ridesLong 95 = .ok (.ireturn, 1) := by decide +kernel
theorem dX3_dropsAheadOfPickup_0 : decode cX3_dropsAheadOfPickup 0 = .ok (.iconst 0, 1) := by decide +kernel
theorem dX3_dropsAheadOfPickup_1 : decode cX3_dropsAheadOfPickup 1 = .ok (.istore_n 2, 1) := by decide +kernel
theorem dX3_dropsAheadOfPickup_2 : decode cX3_dropsAheadOfPickup 2 = .ok (.iload_n 2, 1) := by decide +kernel
theorem dX3_dropsAheadOfPickup_3 : decode cX3_dropsAheadOfPickup 3 = .ok (.aload_n 1, 1) := by decide +kernel
theorem dX3_dropsAheadOfPickup_4 : decode cX3_dropsAheadOfPickup 4 = .ok (.getfield 28, 3) := by decide +kernel
theorem dX3_dropsAheadOfPickup_7 : decode cX3_dropsAheadOfPickup 7 = .ok (.if_icmp .ge 39, 3) := by decide +kernel
theorem dX3_dropsAheadOfPickup_10 : decode cX3_dropsAheadOfPickup 10 = .ok (.aload_n 1, 1) := by decide +kernel
theorem dX3_dropsAheadOfPickup_11 : decode cX3_dropsAheadOfPickup 11 = .ok (.iload_n 2, 1) := by decide +kernel
theorem dX3_dropsAheadOfPickup_12 : decode cX3_dropsAheadOfPickup 12 = .ok (.invokevirtual 33, 3) := by decide +kernel
theorem dX3_dropsAheadOfPickup_15 : decode cX3_dropsAheadOfPickup 15 = .ok (.istore_n 3, 1) := by decide +kernel
theorem dX3_dropsAheadOfPickup_16 : decode cX3_dropsAheadOfPickup 16 = .ok (.iload_n 3, 1) := by decide +kernel
theorem dX3_dropsAheadOfPickup_17 : decode cX3_dropsAheadOfPickup 17 = .ok (.invokestatic 96, 3) := by decide +kernel
theorem dX3_dropsAheadOfPickup_20 : decode cX3_dropsAheadOfPickup 20 = .ok (.ifCond .ne 20, 3) := by decide +kernel
theorem dX3_dropsAheadOfPickup_23 : decode cX3_dropsAheadOfPickup 23 = .ok (.aload_n 1, 1) := by decide +kernel
theorem dX3_dropsAheadOfPickup_24 : decode cX3_dropsAheadOfPickup 24 = .ok (.iload_n 3, 1) := by decide +kernel
theorem dX3_dropsAheadOfPickup_25 : decode cX3_dropsAheadOfPickup 25 = .ok (.invokestatic 84, 3) := by decide +kernel
theorem dX3_dropsAheadOfPickup_28 : decode cX3_dropsAheadOfPickup 28 = .ok (.invokestatic 109, 3) := by decide +kernel
theorem dX3_dropsAheadOfPickup_31 : decode cX3_dropsAheadOfPickup 31 = .ok (.invokevirtual 112, 3) := by decide +kernel
theorem dX3_dropsAheadOfPickup_34 : decode cX3_dropsAheadOfPickup 34 = .ok (.iload_n 2, 1) := by decide +kernel
theorem dX3_dropsAheadOfPickup_35 : decode cX3_dropsAheadOfPickup 35 = .ok (.if_icmp .le 5, 3) := by decide +kernel
theorem dX3_dropsAheadOfPickup_38 : decode cX3_dropsAheadOfPickup 38 = .ok (.iconst 1, 1) := by decide +kernel
theorem dX3_dropsAheadOfPickup_39 : decode cX3_dropsAheadOfPickup 39 = .ok (.ireturn, 1) := by decide +kernel
theorem dX3_dropsAheadOfPickup_40 : decode cX3_dropsAheadOfPickup 40 = .ok (.iinc 2 1, 3) := by decide +kernel
theorem dX3_dropsAheadOfPickup_43 : decode cX3_dropsAheadOfPickup 43 = .ok (.goto (-41), 3) := by decide +kernel
theorem dX3_dropsAheadOfPickup_46 : decode cX3_dropsAheadOfPickup 46 = .ok (.iconst 0, 1) := by decide +kernel
theorem dX3_dropsAheadOfPickup_47 : decode cX3_dropsAheadOfPickup 47 = .ok (.ireturn, 1) := by decide +kernel
theorem dX4_init_0 : decode cX4_init 0 = .ok (.aload_n 0, 1) := by decide +kernel
theorem dX4_init_1 : decode cX4_init 1 = .ok (.invokespecial 3, 3) := by decide +kernel
theorem dX4_init_4 : decode cX4_init 4 = .ok (.aload_n 0, 1) := by decide +kernel
theorem dX4_init_5 : decode cX4_init 5 = .ok (.bipush 60, 2) := by decide +kernel
theorem dX4_init_7 : decode cX4_init 7 = .ok (.newarray .int, 2) := by decide +kernel
theorem dX4_init_9 : decode cX4_init 9 = .ok (.putfield 9, 3) := by decide +kernel
theorem dX4_init_12 : decode cX4_init 12 = .ok (.aload_n 0, 1) := by decide +kernel
theorem dX4_init_13 : decode cX4_init 13 = .ok (.bipush 60, 2) := by decide +kernel
theorem dX4_init_15 : decode cX4_init 15 = .ok (.newarray .int, 2) := by decide +kernel
theorem dX4_init_17 : decode cX4_init 17 = .ok (.putfield 15, 3) := by decide +kernel
theorem dX4_init_20 : decode cX4_init 20 = .ok (.aload_n 0, 1) := by decide +kernel
theorem dX4_init_21 : decode cX4_init 21 = .ok (.bipush 60, 2) := by decide +kernel
theorem dX4_init_23 : decode cX4_init 23 = .ok (.newarray .int, 2) := by decide +kernel
theorem dX4_init_25 : decode cX4_init 25 = .ok (.putfield 18, 3) := by decide +kernel
theorem dX4_init_28 : decode cX4_init 28 = .ok (.aload_n 0, 1) := by decide +kernel
theorem dX4_init_29 : decode cX4_init 29 = .ok (.bipush 60, 2) := by decide +kernel
theorem dX4_init_31 : decode cX4_init 31 = .ok (.newarray .int, 2) := by decide +kernel
theorem dX4_init_33 : decode cX4_init 33 = .ok (.putfield 21, 3) := by decide +kernel
theorem dX4_init_36 : decode cX4_init 36 = .ok (.return_, 1) := by decide +kernel
theorem dX4_write_0 : decode cX4_write 0 = .ok (.aload_n 0, 1) := by decide +kernel
theorem dX4_write_1 : decode cX4_write 1 = .ok (.getfield 24, 3) := by decide +kernel
theorem dX4_write_4 : decode cX4_write 4 = .ok (.bipush 60, 2) := by decide +kernel
theorem dX4_write_6 : decode cX4_write 6 = .ok (.if_icmp .ge 54, 3) := by decide +kernel
theorem dX4_write_9 : decode cX4_write 9 = .ok (.aload_n 0, 1) := by decide +kernel
theorem dX4_write_10 : decode cX4_write 10 = .ok (.getfield 9, 3) := by decide +kernel
theorem dX4_write_13 : decode cX4_write 13 = .ok (.aload_n 0, 1) := by decide +kernel
theorem dX4_write_14 : decode cX4_write 14 = .ok (.getfield 24, 3) := by decide +kernel
theorem dX4_write_17 : decode cX4_write 17 = .ok (.iload_n 1, 1) := by decide +kernel
theorem dX4_write_18 : decode cX4_write 18 = .ok (.iastore, 1) := by decide +kernel
theorem dX4_write_19 : decode cX4_write 19 = .ok (.aload_n 0, 1) := by decide +kernel
theorem dX4_write_20 : decode cX4_write 20 = .ok (.getfield 15, 3) := by decide +kernel
theorem dX4_write_23 : decode cX4_write 23 = .ok (.aload_n 0, 1) := by decide +kernel
theorem dX4_write_24 : decode cX4_write 24 = .ok (.getfield 24, 3) := by decide +kernel
theorem dX4_write_27 : decode cX4_write 27 = .ok (.iload_n 2, 1) := by decide +kernel
theorem dX4_write_28 : decode cX4_write 28 = .ok (.iastore, 1) := by decide +kernel
theorem dX4_write_29 : decode cX4_write 29 = .ok (.aload_n 0, 1) := by decide +kernel
theorem dX4_write_30 : decode cX4_write 30 = .ok (.getfield 18, 3) := by decide +kernel
theorem dX4_write_33 : decode cX4_write 33 = .ok (.aload_n 0, 1) := by decide +kernel
theorem dX4_write_34 : decode cX4_write 34 = .ok (.getfield 24, 3) := by decide +kernel
theorem dX4_write_37 : decode cX4_write 37 = .ok (.iload_n 3, 1) := by decide +kernel
theorem dX4_write_38 : decode cX4_write 38 = .ok (.iastore, 1) := by decide +kernel
theorem dX4_write_39 : decode cX4_write 39 = .ok (.aload_n 0, 1) := by decide +kernel
theorem dX4_write_40 : decode cX4_write 40 = .ok (.getfield 21, 3) := by decide +kernel
theorem dX4_write_43 : decode cX4_write 43 = .ok (.aload_n 0, 1) := by decide +kernel
theorem dX4_write_44 : decode cX4_write 44 = .ok (.getfield 24, 3) := by decide +kernel
theorem dX4_write_47 : decode cX4_write 47 = .ok (.iload 4, 2) := by decide +kernel
theorem dX4_write_49 : decode cX4_write 49 = .ok (.iastore, 1) := by decide +kernel
theorem dX4_write_50 : decode cX4_write 50 = .ok (.aload_n 0, 1) := by decide +kernel
theorem dX4_write_51 : decode cX4_write 51 = .ok (.dup, 1) := by decide +kernel
theorem dX4_write_52 : decode cX4_write 52 = .ok (.getfield 24, 3) := by decide +kernel
theorem dX4_write_55 : decode cX4_write 55 = .ok (.iconst 1, 1) := by decide +kernel
theorem dX4_write_56 : decode cX4_write 56 = .ok (.iadd, 1) := by decide +kernel
theorem dX4_write_57 : decode cX4_write 57 = .ok (.putfield 24, 3) := by decide +kernel
theorem dX4_write_60 : decode cX4_write 60 = .ok (.return_, 1) := by decide +kernel
theorem dX4_busAt_0 : decode cX4_busAt 0 = .ok (.iload_n 1, 1) := by decide +kernel
theorem dX4_busAt_1 : decode cX4_busAt 1 = .ok (.ifCond .lt 21, 3) := by decide +kernel
theorem dX4_busAt_4 : decode cX4_busAt 4 = .ok (.iload_n 1, 1) := by decide +kernel
theorem dX4_busAt_5 : decode cX4_busAt 5 = .ok (.aload_n 0, 1) := by decide +kernel
theorem dX4_busAt_6 : decode cX4_busAt 6 = .ok (.getfield 9, 3) := by decide +kernel
theorem dX4_busAt_9 : decode cX4_busAt 9 = .ok (.arraylength, 1) := by decide +kernel
theorem dX4_busAt_10 : decode cX4_busAt 10 = .ok (.if_icmp .ge 12, 3) := by decide +kernel
theorem dX4_busAt_13 : decode cX4_busAt 13 = .ok (.aload_n 0, 1) := by decide +kernel
theorem dX4_busAt_14 : decode cX4_busAt 14 = .ok (.getfield 9, 3) := by decide +kernel
theorem dX4_busAt_17 : decode cX4_busAt 17 = .ok (.iload_n 1, 1) := by decide +kernel
theorem dX4_busAt_18 : decode cX4_busAt 18 = .ok (.iaload, 1) := by decide +kernel
theorem dX4_busAt_19 : decode cX4_busAt 19 = .ok (.goto 4, 3) := by decide +kernel
theorem dX4_busAt_22 : decode cX4_busAt 22 = .ok (.iconst (-1), 1) := by decide +kernel
theorem dX4_busAt_23 : decode cX4_busAt 23 = .ok (.ireturn, 1) := by decide +kernel
theorem dX4_requestAt_0 : decode cX4_requestAt 0 = .ok (.iload_n 1, 1) := by decide +kernel
theorem dX4_requestAt_1 : decode cX4_requestAt 1 = .ok (.ifCond .lt 21, 3) := by decide +kernel
theorem dX4_requestAt_4 : decode cX4_requestAt 4 = .ok (.iload_n 1, 1) := by decide +kernel
theorem dX4_requestAt_5 : decode cX4_requestAt 5 = .ok (.aload_n 0, 1) := by decide +kernel
theorem dX4_requestAt_6 : decode cX4_requestAt 6 = .ok (.getfield 15, 3) := by decide +kernel
theorem dX4_requestAt_9 : decode cX4_requestAt 9 = .ok (.arraylength, 1) := by decide +kernel
theorem dX4_requestAt_10 : decode cX4_requestAt 10 = .ok (.if_icmp .ge 12, 3) := by decide +kernel
theorem dX4_requestAt_13 : decode cX4_requestAt 13 = .ok (.aload_n 0, 1) := by decide +kernel
theorem dX4_requestAt_14 : decode cX4_requestAt 14 = .ok (.getfield 15, 3) := by decide +kernel
theorem dX4_requestAt_17 : decode cX4_requestAt 17 = .ok (.iload_n 1, 1) := by decide +kernel
theorem dX4_requestAt_18 : decode cX4_requestAt 18 = .ok (.iaload, 1) := by decide +kernel
theorem dX4_requestAt_19 : decode cX4_requestAt 19 = .ok (.goto 4, 3) := by decide +kernel
theorem dX4_requestAt_22 : decode cX4_requestAt 22 = .ok (.iconst (-1), 1) := by decide +kernel
theorem dX4_requestAt_23 : decode cX4_requestAt 23 = .ok (.ireturn, 1) := by decide +kernel
theorem dX4_timeAt_0 : decode cX4_timeAt 0 = .ok (.iload_n 1, 1) := by decide +kernel
theorem dX4_timeAt_1 : decode cX4_timeAt 1 = .ok (.ifCond .lt 21, 3) := by decide +kernel
theorem dX4_timeAt_4 : decode cX4_timeAt 4 = .ok (.iload_n 1, 1) := by decide +kernel
theorem dX4_timeAt_5 : decode cX4_timeAt 5 = .ok (.aload_n 0, 1) := by decide +kernel
theorem dX4_timeAt_6 : decode cX4_timeAt 6 = .ok (.getfield 18, 3) := by decide +kernel
theorem dX4_timeAt_9 : decode cX4_timeAt 9 = .ok (.arraylength, 1) := by decide +kernel
theorem dX4_timeAt_10 : decode cX4_timeAt 10 = .ok (.if_icmp .ge 12, 3) := by decide +kernel
theorem dX4_timeAt_13 : decode cX4_timeAt 13 = .ok (.aload_n 0, 1) := by decide +kernel
theorem dX4_timeAt_14 : decode cX4_timeAt 14 = .ok (.getfield 18, 3) := by decide +kernel
theorem dX4_timeAt_17 : decode cX4_timeAt 17 = .ok (.iload_n 1, 1) := by decide +kernel
theorem dX4_timeAt_18 : decode cX4_timeAt 18 = .ok (.iaload, 1) := by decide +kernel
theorem dX4_timeAt_19 : decode cX4_timeAt 19 = .ok (.goto 4, 3) := by decide +kernel
theorem dX4_timeAt_22 : decode cX4_timeAt 22 = .ok (.iconst (-1), 1) := by decide +kernel
theorem dX4_timeAt_23 : decode cX4_timeAt 23 = .ok (.ireturn, 1) := by decide +kernel
theorem dX4_distanceAt_0 : decode cX4_distanceAt 0 = .ok (.iload_n 1, 1) := by decide +kernel
theorem dX4_distanceAt_1 : decode cX4_distanceAt 1 = .ok (.ifCond .lt 21, 3) := by decide +kernel
theorem dX4_distanceAt_4 : decode cX4_distanceAt 4 = .ok (.iload_n 1, 1) := by decide +kernel
theorem dX4_distanceAt_5 : decode cX4_distanceAt 5 = .ok (.aload_n 0, 1) := by decide +kernel
theorem dX4_distanceAt_6 : decode cX4_distanceAt 6 = .ok (.getfield 21, 3) := by decide +kernel
theorem dX4_distanceAt_9 : decode cX4_distanceAt 9 = .ok (.arraylength, 1) := by decide +kernel
theorem dX4_distanceAt_10 : decode cX4_distanceAt 10 = .ok (.if_icmp .ge 12, 3) := by decide +kernel
theorem dX4_distanceAt_13 : decode cX4_distanceAt 13 = .ok (.aload_n 0, 1) := by decide +kernel
theorem dX4_distanceAt_14 : decode cX4_distanceAt 14 = .ok (.getfield 21, 3) := by decide +kernel
theorem dX4_distanceAt_17 : decode cX4_distanceAt 17 = .ok (.iload_n 1, 1) := by decide +kernel
theorem dX4_distanceAt_18 : decode cX4_distanceAt 18 = .ok (.iaload, 1) := by decide +kernel
theorem dX4_distanceAt_19 : decode cX4_distanceAt 19 = .ok (.goto 4, 3) := by decide +kernel
theorem dX4_distanceAt_22 : decode cX4_distanceAt 22 = .ok (.iconst (-1), 1) := by decide +kernel
theorem dX4_distanceAt_23 : decode cX4_distanceAt 23 = .ok (.ireturn, 1) := by decide +kernel
theorem dX4_emptyDistance_0 : decode cX4_emptyDistance 0 = .ok (.iconst 0, 1) := by decide +kernel
theorem dX4_emptyDistance_1 : decode cX4_emptyDistance 1 = .ok (.istore 4, 2) := by decide +kernel
theorem dX4_emptyDistance_3 : decode cX4_emptyDistance 3 = .ok (.iconst 0, 1) := by decide +kernel
theorem dX4_emptyDistance_4 : decode cX4_emptyDistance 4 = .ok (.istore 5, 2) := by decide +kernel
theorem dX4_emptyDistance_6 : decode cX4_emptyDistance 6 = .ok (.iconst 0, 1) := by decide +kernel
theorem dX4_emptyDistance_7 : decode cX4_emptyDistance 7 = .ok (.istore 6, 2) := by decide +kernel
theorem dX4_emptyDistance_9 : decode cX4_emptyDistance 9 = .ok (.iconst 0, 1) := by decide +kernel
theorem dX4_emptyDistance_10 : decode cX4_emptyDistance 10 = .ok (.istore 7, 2) := by decide +kernel
theorem dX4_emptyDistance_12 : decode cX4_emptyDistance 12 = .ok (.iload 7, 2) := by decide +kernel
theorem dX4_emptyDistance_14 : decode cX4_emptyDistance 14 = .ok (.aload_n 0, 1) := by decide +kernel
theorem dX4_emptyDistance_15 : decode cX4_emptyDistance 15 = .ok (.getfield 24, 3) := by decide +kernel
theorem dX4_emptyDistance_18 : decode cX4_emptyDistance 18 = .ok (.if_icmp .ge 87, 3) := by decide +kernel
theorem dX4_emptyDistance_21 : decode cX4_emptyDistance 21 = .ok (.aload_n 0, 1) := by decide +kernel
theorem dX4_emptyDistance_22 : decode cX4_emptyDistance 22 = .ok (.iload 7, 2) := by decide +kernel
theorem dX4_emptyDistance_24 : decode cX4_emptyDistance 24 = .ok (.invokevirtual 28, 3) := by decide +kernel
theorem dX4_emptyDistance_27 : decode cX4_emptyDistance 27 = .ok (.iload_n 1, 1) := by decide +kernel
theorem dX4_emptyDistance_28 : decode cX4_emptyDistance 28 = .ok (.if_icmp .ne 71, 3) := by decide +kernel
theorem dX4_emptyDistance_31 : decode cX4_emptyDistance 31 = .ok (.iload 4, 2) := by decide +kernel
theorem dX4_emptyDistance_33 : decode cX4_emptyDistance 33 = .ok (.iload 6, 2) := by decide +kernel
theorem dX4_emptyDistance_35 : decode cX4_emptyDistance 35 = .ok (.ifCond .ne 15, 3) := by decide +kernel
theorem dX4_emptyDistance_38 : decode cX4_emptyDistance 38 = .ok (.aload_n 0, 1) := by decide +kernel
theorem dX4_emptyDistance_39 : decode cX4_emptyDistance 39 = .ok (.iload 7, 2) := by decide +kernel
theorem dX4_emptyDistance_41 : decode cX4_emptyDistance 41 = .ok (.invokevirtual 32, 3) := by decide +kernel
theorem dX4_emptyDistance_44 : decode cX4_emptyDistance 44 = .ok (.iload 5, 2) := by decide +kernel
theorem dX4_emptyDistance_46 : decode cX4_emptyDistance 46 = .ok (.isub, 1) := by decide +kernel
theorem dX4_emptyDistance_47 : decode cX4_emptyDistance 47 = .ok (.goto 4, 3) := by decide +kernel
theorem dX4_emptyDistance_50 : decode cX4_emptyDistance 50 = .ok (.iconst 0, 1) := by decide +kernel
theorem dX4_emptyDistance_51 : decode cX4_emptyDistance 51 = .ok (.iadd, 1) := by decide +kernel
theorem dX4_emptyDistance_52 : decode cX4_emptyDistance 52 = .ok (.istore 4, 2) := by decide +kernel
theorem dX4_emptyDistance_54 : decode cX4_emptyDistance 54 = .ok (.aload_n 0, 1) := by decide +kernel
theorem dX4_emptyDistance_55 : decode cX4_emptyDistance 55 = .ok (.iload 7, 2) := by decide +kernel
theorem dX4_emptyDistance_57 : decode cX4_emptyDistance 57 = .ok (.invokevirtual 32, 3) := by decide +kernel
theorem dX4_emptyDistance_60 : decode cX4_emptyDistance 60 = .ok (.istore 5, 2) := by decide +kernel
theorem dX4_emptyDistance_62 : decode cX4_emptyDistance 62 = .ok (.aload_n 3, 1) := by decide +kernel
theorem dX4_emptyDistance_63 : decode cX4_emptyDistance 63 = .ok (.aload_n 0, 1) := by decide +kernel
theorem dX4_emptyDistance_64 : decode cX4_emptyDistance 64 = .ok (.iload 7, 2) := by decide +kernel
theorem dX4_emptyDistance_66 : decode cX4_emptyDistance 66 = .ok (.invokevirtual 35, 3) := by decide +kernel
theorem dX4_emptyDistance_69 : decode cX4_emptyDistance 69 = .ok (.invokevirtual 38, 3) := by decide +kernel
theorem dX4_emptyDistance_72 : decode cX4_emptyDistance 72 = .ok (.getfield 43, 3) := by decide +kernel
theorem dX4_emptyDistance_75 : decode cX4_emptyDistance 75 = .ok (.istore 8, 2) := by decide +kernel
theorem dX4_emptyDistance_77 : decode cX4_emptyDistance 77 = .ok (.iload 6, 2) := by decide +kernel
theorem dX4_emptyDistance_79 : decode cX4_emptyDistance 79 = .ok (.aload_n 0, 1) := by decide +kernel
theorem dX4_emptyDistance_80 : decode cX4_emptyDistance 80 = .ok (.iload 7, 2) := by decide +kernel
theorem dX4_emptyDistance_82 : decode cX4_emptyDistance 82 = .ok (.invokevirtual 48, 3) := by decide +kernel
theorem dX4_emptyDistance_85 : decode cX4_emptyDistance 85 = .ok (.ifCond .eq 8, 3) := by decide +kernel
theorem dX4_emptyDistance_88 : decode cX4_emptyDistance 88 = .ok (.iload 8, 2) := by decide +kernel
theorem dX4_emptyDistance_90 : decode cX4_emptyDistance 90 = .ok (.goto 6, 3) := by decide +kernel
theorem dX4_emptyDistance_93 : decode cX4_emptyDistance 93 = .ok (.iload 8, 2) := by decide +kernel
theorem dX4_emptyDistance_95 : decode cX4_emptyDistance 95 = .ok (.ineg, 1) := by decide +kernel
theorem dX4_emptyDistance_96 : decode cX4_emptyDistance 96 = .ok (.iadd, 1) := by decide +kernel
theorem dX4_emptyDistance_97 : decode cX4_emptyDistance 97 = .ok (.istore 6, 2) := by decide +kernel
theorem dX4_emptyDistance_99 : decode cX4_emptyDistance 99 = .ok (.iinc 7 1, 3) := by decide +kernel
theorem dX4_emptyDistance_102 : decode cX4_emptyDistance 102 = .ok (.goto (-90), 3) := by decide +kernel
theorem dX4_emptyDistance_105 : decode cX4_emptyDistance 105 = .ok (.iload 4, 2) := by decide +kernel
theorem dX4_emptyDistance_107 : decode cX4_emptyDistance 107 = .ok (.iload 6, 2) := by decide +kernel
theorem dX4_emptyDistance_109 : decode cX4_emptyDistance 109 = .ok (.ifCond .ne 10, 3) := by decide +kernel
theorem dX4_emptyDistance_112 : decode cX4_emptyDistance 112 = .ok (.iload_n 2, 1) := by decide +kernel
theorem dX4_emptyDistance_113 : decode cX4_emptyDistance 113 = .ok (.iload 5, 2) := by decide +kernel
theorem dX4_emptyDistance_115 : decode cX4_emptyDistance 115 = .ok (.isub, 1) := by decide +kernel
theorem dX4_emptyDistance_116 : decode cX4_emptyDistance 116 = .ok (.goto 4, 3) := by decide +kernel
theorem dX4_emptyDistance_119 : decode cX4_emptyDistance 119 = .ok (.iconst 0, 1) := by decide +kernel
theorem dX4_emptyDistance_120 : decode cX4_emptyDistance 120 = .ok (.iadd, 1) := by decide +kernel
theorem dX4_emptyDistance_121 : decode cX4_emptyDistance 121 = .ok (.ireturn, 1) := by decide +kernel
theorem dX4_isFirstOfRequest_0 : decode cX4_isFirstOfRequest 0 = .ok (.iconst 0, 1) := by decide +kernel
theorem dX4_isFirstOfRequest_1 : decode cX4_isFirstOfRequest 1 = .ok (.istore_n 2, 1) := by decide +kernel
theorem dX4_isFirstOfRequest_2 : decode cX4_isFirstOfRequest 2 = .ok (.iload_n 2, 1) := by decide +kernel
theorem dX4_isFirstOfRequest_3 : decode cX4_isFirstOfRequest 3 = .ok (.iload_n 1, 1) := by decide +kernel
theorem dX4_isFirstOfRequest_4 : decode cX4_isFirstOfRequest 4 = .ok (.if_icmp .ge 24, 3) := by decide +kernel
theorem dX4_isFirstOfRequest_7 : decode cX4_isFirstOfRequest 7 = .ok (.aload_n 0, 1) := by decide +kernel
theorem dX4_isFirstOfRequest_8 : decode cX4_isFirstOfRequest 8 = .ok (.iload_n 2, 1) := by decide +kernel
theorem dX4_isFirstOfRequest_9 : decode cX4_isFirstOfRequest 9 = .ok (.invokevirtual 35, 3) := by decide +kernel
theorem dX4_isFirstOfRequest_12 : decode cX4_isFirstOfRequest 12 = .ok (.aload_n 0, 1) := by decide +kernel
theorem dX4_isFirstOfRequest_13 : decode cX4_isFirstOfRequest 13 = .ok (.iload_n 1, 1) := by decide +kernel
theorem dX4_isFirstOfRequest_14 : decode cX4_isFirstOfRequest 14 = .ok (.invokevirtual 35, 3) := by decide +kernel
theorem dX4_isFirstOfRequest_17 : decode cX4_isFirstOfRequest 17 = .ok (.if_icmp .ne 5, 3) := by decide +kernel
theorem dX4_isFirstOfRequest_20 : decode cX4_isFirstOfRequest 20 = .ok (.iconst 0, 1) := by decide +kernel
theorem dX4_isFirstOfRequest_21 : decode cX4_isFirstOfRequest 21 = .ok (.ireturn, 1) := by decide +kernel
theorem dX4_isFirstOfRequest_22 : decode cX4_isFirstOfRequest 22 = .ok (.iinc 2 1, 3) := by decide +kernel
theorem dX4_isFirstOfRequest_25 : decode cX4_isFirstOfRequest 25 = .ok (.goto (-23), 3) := by decide +kernel
theorem dX4_isFirstOfRequest_28 : decode cX4_isFirstOfRequest 28 = .ok (.iconst 1, 1) := by decide +kernel
theorem dX4_isFirstOfRequest_29 : decode cX4_isFirstOfRequest 29 = .ok (.ireturn, 1) := by decide +kernel
theorem dX5_init_0 : decode cX5_init 0 = .ok (.aload_n 0, 1) := by decide +kernel
theorem dX5_init_1 : decode cX5_init 1 = .ok (.invokespecial 3, 3) := by decide +kernel
theorem dX5_init_4 : decode cX5_init 4 = .ok (.aload_n 0, 1) := by decide +kernel
theorem dX5_init_5 : decode cX5_init 5 = .ok (.new 9, 3) := by decide +kernel
theorem dX5_init_8 : decode cX5_init 8 = .ok (.dup, 1) := by decide +kernel
theorem dX5_init_9 : decode cX5_init 9 = .ok (.invokespecial 11, 3) := by decide +kernel
theorem dX5_init_12 : decode cX5_init 12 = .ok (.putfield 12, 3) := by decide +kernel
theorem dX5_init_15 : decode cX5_init 15 = .ok (.aload_n 0, 1) := by decide +kernel
theorem dX5_init_16 : decode cX5_init 16 = .ok (.new 9, 3) := by decide +kernel
theorem dX5_init_19 : decode cX5_init 19 = .ok (.dup, 1) := by decide +kernel
theorem dX5_init_20 : decode cX5_init 20 = .ok (.invokespecial 11, 3) := by decide +kernel
theorem dX5_init_23 : decode cX5_init 23 = .ok (.putfield 18, 3) := by decide +kernel
theorem dX5_init_26 : decode cX5_init 26 = .ok (.aload_n 0, 1) := by decide +kernel
theorem dX5_init_27 : decode cX5_init 27 = .ok (.aload_n 1, 1) := by decide +kernel
theorem dX5_init_28 : decode cX5_init 28 = .ok (.putfield 21, 3) := by decide +kernel
theorem dX5_init_31 : decode cX5_init 31 = .ok (.aload_n 0, 1) := by decide +kernel
theorem dX5_init_32 : decode cX5_init 32 = .ok (.aload_n 2, 1) := by decide +kernel
theorem dX5_init_33 : decode cX5_init 33 = .ok (.putfield 25, 3) := by decide +kernel
theorem dX5_init_36 : decode cX5_init 36 = .ok (.return_, 1) := by decide +kernel
theorem dX5_tryAll_0 : decode cX5_tryAll 0 = .ok (.aload_n 0, 1) := by decide +kernel
theorem dX5_tryAll_1 : decode cX5_tryAll 1 = .ok (.aload_n 1, 1) := by decide +kernel
theorem dX5_tryAll_2 : decode cX5_tryAll 2 = .ok (.invokevirtual 29, 3) := by decide +kernel
theorem dX5_tryAll_5 : decode cX5_tryAll 5 = .ok (.iconst 0, 1) := by decide +kernel
theorem dX5_tryAll_6 : decode cX5_tryAll 6 = .ok (.istore_n 3, 1) := by decide +kernel
theorem dX5_tryAll_7 : decode cX5_tryAll 7 = .ok (.iload_n 3, 1) := by decide +kernel
theorem dX5_tryAll_8 : decode cX5_tryAll 8 = .ok (.sipush 720, 3) := by decide +kernel
theorem dX5_tryAll_11 : decode cX5_tryAll 11 = .ok (.if_icmp .ge 81, 3) := by decide +kernel
theorem dX5_tryAll_14 : decode cX5_tryAll 14 = .ok (.aload_n 0, 1) := by decide +kernel
theorem dX5_tryAll_15 : decode cX5_tryAll 15 = .ok (.getfield 21, 3) := by decide +kernel
theorem dX5_tryAll_18 : decode cX5_tryAll 18 = .ok (.aload_n 1, 1) := by decide +kernel
theorem dX5_tryAll_19 : decode cX5_tryAll 19 = .ok (.aload_n 0, 1) := by decide +kernel
theorem dX5_tryAll_20 : decode cX5_tryAll 20 = .ok (.getfield 12, 3) := by decide +kernel
theorem dX5_tryAll_23 : decode cX5_tryAll 23 = .ok (.invokevirtual 33, 3) := by decide +kernel
theorem dX5_tryAll_26 : decode cX5_tryAll 26 = .ok (.istore 4, 2) := by decide +kernel
theorem dX5_tryAll_28 : decode cX5_tryAll 28 = .ok (.iload 4, 2) := by decide +kernel
theorem dX5_tryAll_30 : decode cX5_tryAll 30 = .ok (.aload_n 0, 1) := by decide +kernel
theorem dX5_tryAll_31 : decode cX5_tryAll 31 = .ok (.getfield 39, 3) := by decide +kernel
theorem dX5_tryAll_34 : decode cX5_tryAll 34 = .ok (.if_icmp .ge 39, 3) := by decide +kernel
theorem dX5_tryAll_37 : decode cX5_tryAll 37 = .ok (.aload_n 0, 1) := by decide +kernel
theorem dX5_tryAll_38 : decode cX5_tryAll 38 = .ok (.getfield 21, 3) := by decide +kernel
theorem dX5_tryAll_41 : decode cX5_tryAll 41 = .ok (.aload_n 0, 1) := by decide +kernel
theorem dX5_tryAll_42 : decode cX5_tryAll 42 = .ok (.getfield 12, 3) := by decide +kernel
theorem dX5_tryAll_45 : decode cX5_tryAll 45 = .ok (.invokevirtual 43, 3) := by decide +kernel
theorem dX5_tryAll_48 : decode cX5_tryAll 48 = .ok (.ifCond .ne 25, 3) := by decide +kernel
theorem dX5_tryAll_51 : decode cX5_tryAll 51 = .ok (.aload_n 0, 1) := by decide +kernel
theorem dX5_tryAll_52 : decode cX5_tryAll 52 = .ok (.getfield 21, 3) := by decide +kernel
theorem dX5_tryAll_55 : decode cX5_tryAll 55 = .ok (.aload_n 1, 1) := by decide +kernel
theorem dX5_tryAll_56 : decode cX5_tryAll 56 = .ok (.aload_n 0, 1) := by decide +kernel
theorem dX5_tryAll_57 : decode cX5_tryAll 57 = .ok (.getfield 12, 3) := by decide +kernel
theorem dX5_tryAll_60 : decode cX5_tryAll 60 = .ok (.iload_n 2, 1) := by decide +kernel
theorem dX5_tryAll_61 : decode cX5_tryAll 61 = .ok (.invokevirtual 47, 3) := by decide +kernel
theorem dX5_tryAll_64 : decode cX5_tryAll 64 = .ok (.ifCond .ne 9, 3) := by decide +kernel
theorem dX5_tryAll_67 : decode cX5_tryAll 67 = .ok (.aload_n 0, 1) := by decide +kernel
theorem dX5_tryAll_68 : decode cX5_tryAll 68 = .ok (.iload 4, 2) := by decide +kernel
theorem dX5_tryAll_70 : decode cX5_tryAll 70 = .ok (.invokevirtual 51, 3) := by decide +kernel
theorem dX5_tryAll_73 : decode cX5_tryAll 73 = .ok (.aload_n 0, 1) := by decide +kernel
theorem dX5_tryAll_74 : decode cX5_tryAll 74 = .ok (.getfield 12, 3) := by decide +kernel
theorem dX5_tryAll_77 : decode cX5_tryAll 77 = .ok (.invokevirtual 55, 3) := by decide +kernel
theorem dX5_tryAll_80 : decode cX5_tryAll 80 = .ok (.ifCond .ne 6, 3) := by decide +kernel
theorem dX5_tryAll_83 : decode cX5_tryAll 83 = .ok (.goto 9, 3) := by decide +kernel
theorem dX5_tryAll_86 : decode cX5_tryAll 86 = .ok (.iinc 3 1, 3) := by decide +kernel
theorem dX5_tryAll_89 : decode cX5_tryAll 89 = .ok (.goto (-82), 3) := by decide +kernel
theorem dX5_tryAll_92 : decode cX5_tryAll 92 = .ok (.return_, 1) := by decide +kernel
theorem dX5_tryEarly_0 : decode cX5_tryEarly 0 = .ok (.aload_n 0, 1) := by decide +kernel
theorem dX5_tryEarly_1 : decode cX5_tryEarly 1 = .ok (.aload_n 1, 1) := by decide +kernel
theorem dX5_tryEarly_2 : decode cX5_tryEarly 2 = .ok (.invokevirtual 29, 3) := by decide +kernel
theorem dX5_tryEarly_5 : decode cX5_tryEarly 5 = .ok (.iconst 0, 1) := by decide +kernel
theorem dX5_tryEarly_6 : decode cX5_tryEarly 6 = .ok (.istore_n 3, 1) := by decide +kernel
theorem dX5_tryEarly_7 : decode cX5_tryEarly 7 = .ok (.iload_n 3, 1) := by decide +kernel
theorem dX5_tryEarly_8 : decode cX5_tryEarly 8 = .ok (.sipush 720, 3) := by decide +kernel
theorem dX5_tryEarly_11 : decode cX5_tryEarly 11 = .ok (.if_icmp .ge 73, 3) := by decide +kernel
theorem dX5_tryEarly_14 : decode cX5_tryEarly 14 = .ok (.aload_n 0, 1) := by decide +kernel
theorem dX5_tryEarly_15 : decode cX5_tryEarly 15 = .ok (.getfield 25, 3) := by decide +kernel
theorem dX5_tryEarly_18 : decode cX5_tryEarly 18 = .ok (.aload_n 1, 1) := by decide +kernel
theorem dX5_tryEarly_19 : decode cX5_tryEarly 19 = .ok (.aload_n 0, 1) := by decide +kernel
theorem dX5_tryEarly_20 : decode cX5_tryEarly 20 = .ok (.getfield 12, 3) := by decide +kernel
theorem dX5_tryEarly_23 : decode cX5_tryEarly 23 = .ok (.iload_n 2, 1) := by decide +kernel
theorem dX5_tryEarly_24 : decode cX5_tryEarly 24 = .ok (.aload_n 0, 1) := by decide +kernel
theorem dX5_tryEarly_25 : decode cX5_tryEarly 25 = .ok (.getfield 39, 3) := by decide +kernel
theorem dX5_tryEarly_28 : decode cX5_tryEarly 28 = .ok (.invokevirtual 59, 3) := by decide +kernel
theorem dX5_tryEarly_31 : decode cX5_tryEarly 31 = .ok (.istore 4, 2) := by decide +kernel
theorem dX5_tryEarly_33 : decode cX5_tryEarly 33 = .ok (.iload 4, 2) := by decide +kernel
theorem dX5_tryEarly_35 : decode cX5_tryEarly 35 = .ok (.iconst (-1), 1) := by decide +kernel
theorem dX5_tryEarly_36 : decode cX5_tryEarly 36 = .ok (.if_icmp .ne 17, 3) := by decide +kernel
theorem dX5_tryEarly_39 : decode cX5_tryEarly 39 = .ok (.aload_n 0, 1) := by decide +kernel
theorem dX5_tryEarly_40 : decode cX5_tryEarly 40 = .ok (.aload_n 0, 1) := by decide +kernel
theorem dX5_tryEarly_41 : decode cX5_tryEarly 41 = .ok (.getfield 25, 3) := by decide +kernel
theorem dX5_tryEarly_44 : decode cX5_tryEarly 44 = .ok (.getfield 65, 3) := by decide +kernel
theorem dX5_tryEarly_47 : decode cX5_tryEarly 47 = .ok (.invokevirtual 51, 3) := by decide +kernel
theorem dX5_tryEarly_50 : decode cX5_tryEarly 50 = .ok (.goto 15, 3) := by decide +kernel
theorem dX5_tryEarly_53 : decode cX5_tryEarly 53 = .ok (.aload_n 0, 1) := by decide +kernel
theorem dX5_tryEarly_54 : decode cX5_tryEarly 54 = .ok (.getfield 12, 3) := by decide +kernel
theorem dX5_tryEarly_57 : decode cX5_tryEarly 57 = .ok (.iload 4, 2) := by decide +kernel
theorem dX5_tryEarly_59 : decode cX5_tryEarly 59 = .ok (.iconst 1, 1) := by decide +kernel
theorem dX5_tryEarly_60 : decode cX5_tryEarly 60 = .ok (.iadd, 1) := by decide +kernel
theorem dX5_tryEarly_61 : decode cX5_tryEarly 61 = .ok (.iconst 0, 1) := by decide +kernel
theorem dX5_tryEarly_62 : decode cX5_tryEarly 62 = .ok (.invokevirtual 68, 3) := by decide +kernel
theorem dX5_tryEarly_65 : decode cX5_tryEarly 65 = .ok (.aload_n 0, 1) := by decide +kernel
theorem dX5_tryEarly_66 : decode cX5_tryEarly 66 = .ok (.getfield 12, 3) := by decide +kernel
theorem dX5_tryEarly_69 : decode cX5_tryEarly 69 = .ok (.invokevirtual 55, 3) := by decide +kernel
theorem dX5_tryEarly_72 : decode cX5_tryEarly 72 = .ok (.ifCond .ne 6, 3) := by decide +kernel
theorem dX5_tryEarly_75 : decode cX5_tryEarly 75 = .ok (.goto 9, 3) := by decide +kernel
theorem dX5_tryEarly_78 : decode cX5_tryEarly 78 = .ok (.iinc 3 1, 3) := by decide +kernel
theorem dX5_tryEarly_81 : decode cX5_tryEarly 81 = .ok (.goto (-74), 3) := by decide +kernel
theorem dX5_tryEarly_84 : decode cX5_tryEarly 84 = .ok (.return_, 1) := by decide +kernel
theorem dX5_begin_0 : decode cX5_begin 0 = .ok (.aload_n 0, 1) := by decide +kernel
theorem dX5_begin_1 : decode cX5_begin 1 = .ok (.getfield 18, 3) := by decide +kernel
theorem dX5_begin_4 : decode cX5_begin 4 = .ok (.aload_n 1, 1) := by decide +kernel
theorem dX5_begin_5 : decode cX5_begin 5 = .ok (.getfield 72, 3) := by decide +kernel
theorem dX5_begin_8 : decode cX5_begin 8 = .ok (.invokevirtual 77, 3) := by decide +kernel
theorem dX5_begin_11 : decode cX5_begin 11 = .ok (.aload_n 0, 1) := by decide +kernel
theorem dX5_begin_12 : decode cX5_begin 12 = .ok (.getfield 12, 3) := by decide +kernel
theorem dX5_begin_15 : decode cX5_begin 15 = .ok (.aload_n 1, 1) := by decide +kernel
theorem dX5_begin_16 : decode cX5_begin 16 = .ok (.getfield 72, 3) := by decide +kernel
theorem dX5_begin_19 : decode cX5_begin 19 = .ok (.invokevirtual 77, 3) := by decide +kernel
theorem dX5_begin_22 : decode cX5_begin 22 = .ok (.aload_n 0, 1) := by decide +kernel
theorem dX5_begin_23 : decode cX5_begin 23 = .ok (.getfield 12, 3) := by decide +kernel
theorem dX5_begin_26 : decode cX5_begin 26 = .ok (.iconst 0, 1) := by decide +kernel
theorem dX5_begin_27 : decode cX5_begin 27 = .ok (.iconst 1, 1) := by decide +kernel
theorem dX5_begin_28 : decode cX5_begin 28 = .ok (.invokevirtual 68, 3) := by decide +kernel
theorem dX5_begin_31 : decode cX5_begin 31 = .ok (.aload_n 0, 1) := by decide +kernel
theorem dX5_begin_32 : decode cX5_begin 32 = .ok (.aload_n 0, 1) := by decide +kernel
theorem dX5_begin_33 : decode cX5_begin 33 = .ok (.getfield 21, 3) := by decide +kernel
theorem dX5_begin_36 : decode cX5_begin 36 = .ok (.aload_n 1, 1) := by decide +kernel
theorem dX5_begin_37 : decode cX5_begin 37 = .ok (.aload_n 1, 1) := by decide +kernel
theorem dX5_begin_38 : decode cX5_begin 38 = .ok (.getfield 72, 3) := by decide +kernel
theorem dX5_begin_41 : decode cX5_begin 41 = .ok (.invokevirtual 33, 3) := by decide +kernel
theorem dX5_begin_44 : decode cX5_begin 44 = .ok (.iconst 1, 1) := by decide +kernel
theorem dX5_begin_45 : decode cX5_begin 45 = .ok (.iadd, 1) := by decide +kernel
theorem dX5_begin_46 : decode cX5_begin 46 = .ok (.putfield 39, 3) := by decide +kernel
theorem dX5_begin_49 : decode cX5_begin 49 = .ok (.return_, 1) := by decide +kernel
theorem dX5_keep_0 : decode cX5_keep 0 = .ok (.aload_n 0, 1) := by decide +kernel
theorem dX5_keep_1 : decode cX5_keep 1 = .ok (.getfield 18, 3) := by decide +kernel
theorem dX5_keep_4 : decode cX5_keep 4 = .ok (.aload_n 0, 1) := by decide +kernel
theorem dX5_keep_5 : decode cX5_keep 5 = .ok (.getfield 12, 3) := by decide +kernel
theorem dX5_keep_8 : decode cX5_keep 8 = .ok (.invokevirtual 77, 3) := by decide +kernel
theorem dX5_keep_11 : decode cX5_keep 11 = .ok (.aload_n 0, 1) := by decide +kernel
theorem dX5_keep_12 : decode cX5_keep 12 = .ok (.iload_n 1, 1) := by decide +kernel
theorem dX5_keep_13 : decode cX5_keep 13 = .ok (.putfield 39, 3) := by decide +kernel
theorem dX5_keep_16 : decode cX5_keep 16 = .ok (.return_, 1) := by decide +kernel
theorem dX6_init_0 : decode cX6_init 0 = .ok (.aload_n 0, 1) := by decide +kernel
theorem dX6_init_1 : decode cX6_init 1 = .ok (.invokespecial 3, 3) := by decide +kernel
theorem dX6_init_4 : decode cX6_init 4 = .ok (.aload_n 0, 1) := by decide +kernel
theorem dX6_init_5 : decode cX6_init 5 = .ok (.iconst (-1), 1) := by decide +kernel
theorem dX6_init_6 : decode cX6_init 6 = .ok (.putfield 9, 3) := by decide +kernel
theorem dX6_init_9 : decode cX6_init 9 = .ok (.return_, 1) := by decide +kernel
theorem dX7_init_0 : decode cX7_init 0 = .ok (.aload_n 0, 1) := by decide +kernel
theorem dX7_init_1 : decode cX7_init 1 = .ok (.invokespecial 3, 3) := by decide +kernel
theorem dX7_init_4 : decode cX7_init 4 = .ok (.aload_n 0, 1) := by decide +kernel
theorem dX7_init_5 : decode cX7_init 5 = .ok (.bipush 8, 2) := by decide +kernel
theorem dX7_init_7 : decode cX7_init 7 = .ok (.newarray .int, 2) := by decide +kernel
theorem dX7_init_9 : decode cX7_init 9 = .ok (.putfield 9, 3) := by decide +kernel
theorem dX7_init_12 : decode cX7_init 12 = .ok (.return_, 1) := by decide +kernel
theorem dX7_stopAt_0 : decode cX7_stopAt 0 = .ok (.iload_n 1, 1) := by decide +kernel
theorem dX7_stopAt_1 : decode cX7_stopAt 1 = .ok (.ifCond .lt 29, 3) := by decide +kernel
theorem dX7_stopAt_4 : decode cX7_stopAt 4 = .ok (.iload_n 1, 1) := by decide +kernel
theorem dX7_stopAt_5 : decode cX7_stopAt 5 = .ok (.aload_n 0, 1) := by decide +kernel
theorem dX7_stopAt_6 : decode cX7_stopAt 6 = .ok (.getfield 15, 3) := by decide +kernel
theorem dX7_stopAt_9 : decode cX7_stopAt 9 = .ok (.if_icmp .ge 21, 3) := by decide +kernel
theorem dX7_stopAt_12 : decode cX7_stopAt 12 = .ok (.iload_n 1, 1) := by decide +kernel
theorem dX7_stopAt_13 : decode cX7_stopAt 13 = .ok (.aload_n 0, 1) := by decide +kernel
theorem dX7_stopAt_14 : decode cX7_stopAt 14 = .ok (.getfield 9, 3) := by decide +kernel
theorem dX7_stopAt_17 : decode cX7_stopAt 17 = .ok (.arraylength, 1) := by decide +kernel
theorem dX7_stopAt_18 : decode cX7_stopAt 18 = .ok (.if_icmp .ge 12, 3) := by decide +kernel
theorem dX7_stopAt_21 : decode cX7_stopAt 21 = .ok (.aload_n 0, 1) := by decide +kernel
theorem dX7_stopAt_22 : decode cX7_stopAt 22 = .ok (.getfield 9, 3) := by decide +kernel
theorem dX7_stopAt_25 : decode cX7_stopAt 25 = .ok (.iload_n 1, 1) := by decide +kernel
theorem dX7_stopAt_26 : decode cX7_stopAt 26 = .ok (.iaload, 1) := by decide +kernel
theorem dX7_stopAt_27 : decode cX7_stopAt 27 = .ok (.goto 4, 3) := by decide +kernel
theorem dX7_stopAt_30 : decode cX7_stopAt 30 = .ok (.iconst (-1), 1) := by decide +kernel
theorem dX7_stopAt_31 : decode cX7_stopAt 31 = .ok (.ireturn, 1) := by decide +kernel
theorem dX7_set_0 : decode cX7_set 0 = .ok (.iload_n 1, 1) := by decide +kernel
theorem dX7_set_1 : decode cX7_set 1 = .ok (.ifCond .lt 19, 3) := by decide +kernel
theorem dX7_set_4 : decode cX7_set 4 = .ok (.iload_n 1, 1) := by decide +kernel
theorem dX7_set_5 : decode cX7_set 5 = .ok (.aload_n 0, 1) := by decide +kernel
theorem dX7_set_6 : decode cX7_set 6 = .ok (.getfield 9, 3) := by decide +kernel
theorem dX7_set_9 : decode cX7_set 9 = .ok (.arraylength, 1) := by decide +kernel
theorem dX7_set_10 : decode cX7_set 10 = .ok (.if_icmp .ge 10, 3) := by decide +kernel
theorem dX7_set_13 : decode cX7_set 13 = .ok (.aload_n 0, 1) := by decide +kernel
theorem dX7_set_14 : decode cX7_set 14 = .ok (.getfield 9, 3) := by decide +kernel
theorem dX7_set_17 : decode cX7_set 17 = .ok (.iload_n 1, 1) := by decide +kernel
theorem dX7_set_18 : decode cX7_set 18 = .ok (.iload_n 2, 1) := by decide +kernel
theorem dX7_set_19 : decode cX7_set 19 = .ok (.iastore, 1) := by decide +kernel
theorem dX7_set_20 : decode cX7_set 20 = .ok (.return_, 1) := by decide +kernel
theorem dX7_indexOf_0 : decode cX7_indexOf 0 = .ok (.iconst 0, 1) := by decide +kernel
theorem dX7_indexOf_1 : decode cX7_indexOf 1 = .ok (.istore_n 2, 1) := by decide +kernel
theorem dX7_indexOf_2 : decode cX7_indexOf 2 = .ok (.iload_n 2, 1) := by decide +kernel
theorem dX7_indexOf_3 : decode cX7_indexOf 3 = .ok (.aload_n 0, 1) := by decide +kernel
theorem dX7_indexOf_4 : decode cX7_indexOf 4 = .ok (.getfield 15, 3) := by decide +kernel
theorem dX7_indexOf_7 : decode cX7_indexOf 7 = .ok (.if_icmp .ge 20, 3) := by decide +kernel
theorem dX7_indexOf_10 : decode cX7_indexOf 10 = .ok (.aload_n 0, 1) := by decide +kernel
theorem dX7_indexOf_11 : decode cX7_indexOf 11 = .ok (.iload_n 2, 1) := by decide +kernel
theorem dX7_indexOf_12 : decode cX7_indexOf 12 = .ok (.invokevirtual 19, 3) := by decide +kernel
theorem dX7_indexOf_15 : decode cX7_indexOf 15 = .ok (.iload_n 1, 1) := by decide +kernel
theorem dX7_indexOf_16 : decode cX7_indexOf 16 = .ok (.if_icmp .ne 5, 3) := by decide +kernel
theorem dX7_indexOf_19 : decode cX7_indexOf 19 = .ok (.iload_n 2, 1) := by decide +kernel
theorem dX7_indexOf_20 : decode cX7_indexOf 20 = .ok (.ireturn, 1) := by decide +kernel
theorem dX7_indexOf_21 : decode cX7_indexOf 21 = .ok (.iinc 2 1, 3) := by decide +kernel
theorem dX7_indexOf_24 : decode cX7_indexOf 24 = .ok (.goto (-22), 3) := by decide +kernel
theorem dX7_indexOf_27 : decode cX7_indexOf 27 = .ok (.iconst (-1), 1) := by decide +kernel
theorem dX7_indexOf_28 : decode cX7_indexOf 28 = .ok (.ireturn, 1) := by decide +kernel
theorem dX7_add_0 : decode cX7_add 0 = .ok (.aload_n 0, 1) := by decide +kernel
theorem dX7_add_1 : decode cX7_add 1 = .ok (.getfield 15, 3) := by decide +kernel
theorem dX7_add_4 : decode cX7_add 4 = .ok (.aload_n 0, 1) := by decide +kernel
theorem dX7_add_5 : decode cX7_add 5 = .ok (.getfield 9, 3) := by decide +kernel
theorem dX7_add_8 : decode cX7_add 8 = .ok (.arraylength, 1) := by decide +kernel
theorem dX7_add_9 : decode cX7_add 9 = .ok (.if_icmp .ge 22, 3) := by decide +kernel
theorem dX7_add_12 : decode cX7_add 12 = .ok (.aload_n 0, 1) := by decide +kernel
theorem dX7_add_13 : decode cX7_add 13 = .ok (.aload_n 0, 1) := by decide +kernel
theorem dX7_add_14 : decode cX7_add 14 = .ok (.getfield 15, 3) := by decide +kernel
theorem dX7_add_17 : decode cX7_add 17 = .ok (.iload_n 1, 1) := by decide +kernel
theorem dX7_add_18 : decode cX7_add 18 = .ok (.invokevirtual 23, 3) := by decide +kernel
theorem dX7_add_21 : decode cX7_add 21 = .ok (.aload_n 0, 1) := by decide +kernel
theorem dX7_add_22 : decode cX7_add 22 = .ok (.dup, 1) := by decide +kernel
theorem dX7_add_23 : decode cX7_add 23 = .ok (.getfield 15, 3) := by decide +kernel
theorem dX7_add_26 : decode cX7_add 26 = .ok (.iconst 1, 1) := by decide +kernel
theorem dX7_add_27 : decode cX7_add 27 = .ok (.iadd, 1) := by decide +kernel
theorem dX7_add_28 : decode cX7_add 28 = .ok (.putfield 15, 3) := by decide +kernel
theorem dX7_add_31 : decode cX7_add 31 = .ok (.return_, 1) := by decide +kernel
theorem dX7_removeStop_0 : decode cX7_removeStop 0 = .ok (.aload_n 0, 1) := by decide +kernel
theorem dX7_removeStop_1 : decode cX7_removeStop 1 = .ok (.iload_n 1, 1) := by decide +kernel
theorem dX7_removeStop_2 : decode cX7_removeStop 2 = .ok (.invokevirtual 27, 3) := by decide +kernel
theorem dX7_removeStop_5 : decode cX7_removeStop 5 = .ok (.istore_n 2, 1) := by decide +kernel
theorem dX7_removeStop_6 : decode cX7_removeStop 6 = .ok (.iload_n 2, 1) := by decide +kernel
theorem dX7_removeStop_7 : decode cX7_removeStop 7 = .ok (.ifCond .ge 4, 3) := by decide +kernel
theorem dX7_removeStop_10 : decode cX7_removeStop 10 = .ok (.return_, 1) := by decide +kernel
theorem dX7_removeStop_11 : decode cX7_removeStop 11 = .ok (.iload_n 2, 1) := by decide +kernel
theorem dX7_removeStop_12 : decode cX7_removeStop 12 = .ok (.istore_n 3, 1) := by decide +kernel
theorem dX7_removeStop_13 : decode cX7_removeStop 13 = .ok (.iload_n 3, 1) := by decide +kernel
theorem dX7_removeStop_14 : decode cX7_removeStop 14 = .ok (.iconst 1, 1) := by decide +kernel
theorem dX7_removeStop_15 : decode cX7_removeStop 15 = .ok (.iadd, 1) := by decide +kernel
theorem dX7_removeStop_16 : decode cX7_removeStop 16 = .ok (.aload_n 0, 1) := by decide +kernel
theorem dX7_removeStop_17 : decode cX7_removeStop 17 = .ok (.getfield 15, 3) := by decide +kernel
theorem dX7_removeStop_20 : decode cX7_removeStop 20 = .ok (.if_icmp .ge 21, 3) := by decide +kernel
theorem dX7_removeStop_23 : decode cX7_removeStop 23 = .ok (.aload_n 0, 1) := by decide +kernel
theorem dX7_removeStop_24 : decode cX7_removeStop 24 = .ok (.iload_n 3, 1) := by decide +kernel
theorem dX7_removeStop_25 : decode cX7_removeStop 25 = .ok (.aload_n 0, 1) := by decide +kernel
theorem dX7_removeStop_26 : decode cX7_removeStop 26 = .ok (.iload_n 3, 1) := by decide +kernel
theorem dX7_removeStop_27 : decode cX7_removeStop 27 = .ok (.iconst 1, 1) := by decide +kernel
theorem dX7_removeStop_28 : decode cX7_removeStop 28 = .ok (.iadd, 1) := by decide +kernel
theorem dX7_removeStop_29 : decode cX7_removeStop 29 = .ok (.invokevirtual 19, 3) := by decide +kernel
theorem dX7_removeStop_32 : decode cX7_removeStop 32 = .ok (.invokevirtual 23, 3) := by decide +kernel
theorem dX7_removeStop_35 : decode cX7_removeStop 35 = .ok (.iinc 3 1, 3) := by decide +kernel
theorem dX7_removeStop_38 : decode cX7_removeStop 38 = .ok (.goto (-25), 3) := by decide +kernel
theorem dX7_removeStop_41 : decode cX7_removeStop 41 = .ok (.aload_n 0, 1) := by decide +kernel
theorem dX7_removeStop_42 : decode cX7_removeStop 42 = .ok (.dup, 1) := by decide +kernel
theorem dX7_removeStop_43 : decode cX7_removeStop 43 = .ok (.getfield 15, 3) := by decide +kernel
theorem dX7_removeStop_46 : decode cX7_removeStop 46 = .ok (.iconst 1, 1) := by decide +kernel
theorem dX7_removeStop_47 : decode cX7_removeStop 47 = .ok (.isub, 1) := by decide +kernel
theorem dX7_removeStop_48 : decode cX7_removeStop 48 = .ok (.putfield 15, 3) := by decide +kernel
theorem dX7_removeStop_51 : decode cX7_removeStop 51 = .ok (.return_, 1) := by decide +kernel
theorem dX7_copyFrom_0 : decode cX7_copyFrom 0 = .ok (.aload_n 0, 1) := by decide +kernel
theorem dX7_copyFrom_1 : decode cX7_copyFrom 1 = .ok (.iconst 0, 1) := by decide +kernel
theorem dX7_copyFrom_2 : decode cX7_copyFrom 2 = .ok (.putfield 15, 3) := by decide +kernel
theorem dX7_copyFrom_5 : decode cX7_copyFrom 5 = .ok (.iconst 0, 1) := by decide +kernel
theorem dX7_copyFrom_6 : decode cX7_copyFrom 6 = .ok (.istore_n 2, 1) := by decide +kernel
theorem dX7_copyFrom_7 : decode cX7_copyFrom 7 = .ok (.iload_n 2, 1) := by decide +kernel
theorem dX7_copyFrom_8 : decode cX7_copyFrom 8 = .ok (.aload_n 1, 1) := by decide +kernel
theorem dX7_copyFrom_9 : decode cX7_copyFrom 9 = .ok (.getfield 15, 3) := by decide +kernel
theorem dX7_copyFrom_12 : decode cX7_copyFrom 12 = .ok (.if_icmp .ge 18, 3) := by decide +kernel
theorem dX7_copyFrom_15 : decode cX7_copyFrom 15 = .ok (.aload_n 0, 1) := by decide +kernel
theorem dX7_copyFrom_16 : decode cX7_copyFrom 16 = .ok (.aload_n 1, 1) := by decide +kernel
theorem dX7_copyFrom_17 : decode cX7_copyFrom 17 = .ok (.iload_n 2, 1) := by decide +kernel
theorem dX7_copyFrom_18 : decode cX7_copyFrom 18 = .ok (.invokevirtual 19, 3) := by decide +kernel
theorem dX7_copyFrom_21 : decode cX7_copyFrom 21 = .ok (.invokevirtual 30, 3) := by decide +kernel
theorem dX7_copyFrom_24 : decode cX7_copyFrom 24 = .ok (.iinc 2 1, 3) := by decide +kernel
theorem dX7_copyFrom_27 : decode cX7_copyFrom 27 = .ok (.goto (-20), 3) := by decide +kernel
theorem dX7_copyFrom_30 : decode cX7_copyFrom 30 = .ok (.return_, 1) := by decide +kernel
theorem dX7_sortFrom_0 : decode cX7_sortFrom 0 = .ok (.iload_n 1, 1) := by decide +kernel
theorem dX7_sortFrom_1 : decode cX7_sortFrom 1 = .ok (.iconst 1, 1) := by decide +kernel
theorem dX7_sortFrom_2 : decode cX7_sortFrom 2 = .ok (.iadd, 1) := by decide +kernel
theorem dX7_sortFrom_3 : decode cX7_sortFrom 3 = .ok (.istore_n 3, 1) := by decide +kernel
theorem dX7_sortFrom_4 : decode cX7_sortFrom 4 = .ok (.iload_n 3, 1) := by decide +kernel
theorem dX7_sortFrom_5 : decode cX7_sortFrom 5 = .ok (.aload_n 0, 1) := by decide +kernel
theorem dX7_sortFrom_6 : decode cX7_sortFrom 6 = .ok (.getfield 15, 3) := by decide +kernel
theorem dX7_sortFrom_9 : decode cX7_sortFrom 9 = .ok (.if_icmp .ge 63, 3) := by decide +kernel
theorem dX7_sortFrom_12 : decode cX7_sortFrom 12 = .ok (.iload_n 3, 1) := by decide +kernel
theorem dX7_sortFrom_13 : decode cX7_sortFrom 13 = .ok (.istore 4, 2) := by decide +kernel
theorem dX7_sortFrom_15 : decode cX7_sortFrom 15 = .ok (.iload 4, 2) := by decide +kernel
theorem dX7_sortFrom_17 : decode cX7_sortFrom 17 = .ok (.iload_n 1, 1) := by decide +kernel
theorem dX7_sortFrom_18 : decode cX7_sortFrom 18 = .ok (.if_icmp .le 48, 3) := by decide +kernel
theorem dX7_sortFrom_21 : decode cX7_sortFrom 21 = .ok (.aload_n 0, 1) := by decide +kernel
theorem dX7_sortFrom_22 : decode cX7_sortFrom 22 = .ok (.iload 4, 2) := by decide +kernel
theorem dX7_sortFrom_24 : decode cX7_sortFrom 24 = .ok (.iconst 1, 1) := by decide +kernel
theorem dX7_sortFrom_25 : decode cX7_sortFrom 25 = .ok (.isub, 1) := by decide +kernel
theorem dX7_sortFrom_26 : decode cX7_sortFrom 26 = .ok (.invokevirtual 19, 3) := by decide +kernel
theorem dX7_sortFrom_29 : decode cX7_sortFrom 29 = .ok (.aload_n 0, 1) := by decide +kernel
theorem dX7_sortFrom_30 : decode cX7_sortFrom 30 = .ok (.iload 4, 2) := by decide +kernel
theorem dX7_sortFrom_32 : decode cX7_sortFrom 32 = .ok (.invokevirtual 19, 3) := by decide +kernel
theorem dX7_sortFrom_35 : decode cX7_sortFrom 35 = .ok (.if_icmp .ge 7, 3) := by decide +kernel
theorem dX7_sortFrom_38 : decode cX7_sortFrom 38 = .ok (.iconst 1, 1) := by decide +kernel
theorem dX7_sortFrom_39 : decode cX7_sortFrom 39 = .ok (.goto 4, 3) := by decide +kernel
theorem dX7_sortFrom_42 : decode cX7_sortFrom 42 = .ok (.iconst 0, 1) := by decide +kernel
theorem dX7_sortFrom_43 : decode cX7_sortFrom 43 = .ok (.iload_n 2, 1) := by decide +kernel
theorem dX7_sortFrom_44 : decode cX7_sortFrom 44 = .ok (.if_icmp .ne 6, 3) := by decide +kernel
theorem dX7_sortFrom_47 : decode cX7_sortFrom 47 = .ok (.goto 19, 3) := by decide +kernel
theorem dX7_sortFrom_50 : decode cX7_sortFrom 50 = .ok (.aload_n 0, 1) := by decide +kernel
theorem dX7_sortFrom_51 : decode cX7_sortFrom 51 = .ok (.iload 4, 2) := by decide +kernel
theorem dX7_sortFrom_53 : decode cX7_sortFrom 53 = .ok (.iconst 1, 1) := by decide +kernel
theorem dX7_sortFrom_54 : decode cX7_sortFrom 54 = .ok (.isub, 1) := by decide +kernel
theorem dX7_sortFrom_55 : decode cX7_sortFrom 55 = .ok (.iload 4, 2) := by decide +kernel
theorem dX7_sortFrom_57 : decode cX7_sortFrom 57 = .ok (.invokevirtual 34, 3) := by decide +kernel
theorem dX7_sortFrom_60 : decode cX7_sortFrom 60 = .ok (.iinc 4 (-1), 3) := by decide +kernel
theorem dX7_sortFrom_63 : decode cX7_sortFrom 63 = .ok (.goto (-48), 3) := by decide +kernel
theorem dX7_sortFrom_66 : decode cX7_sortFrom 66 = .ok (.iinc 3 1, 3) := by decide +kernel
theorem dX7_sortFrom_69 : decode cX7_sortFrom 69 = .ok (.goto (-65), 3) := by decide +kernel
theorem dX7_sortFrom_72 : decode cX7_sortFrom 72 = .ok (.return_, 1) := by decide +kernel
theorem dX7_swap_0 : decode cX7_swap 0 = .ok (.aload_n 0, 1) := by decide +kernel
theorem dX7_swap_1 : decode cX7_swap 1 = .ok (.iload_n 1, 1) := by decide +kernel
theorem dX7_swap_2 : decode cX7_swap 2 = .ok (.invokevirtual 19, 3) := by decide +kernel
theorem dX7_swap_5 : decode cX7_swap 5 = .ok (.istore_n 3, 1) := by decide +kernel
theorem dX7_swap_6 : decode cX7_swap 6 = .ok (.aload_n 0, 1) := by decide +kernel
theorem dX7_swap_7 : decode cX7_swap 7 = .ok (.iload_n 1, 1) := by decide +kernel
theorem dX7_swap_8 : decode cX7_swap 8 = .ok (.aload_n 0, 1) := by decide +kernel
theorem dX7_swap_9 : decode cX7_swap 9 = .ok (.iload_n 2, 1) := by decide +kernel
theorem dX7_swap_10 : decode cX7_swap 10 = .ok (.invokevirtual 19, 3) := by decide +kernel
theorem dX7_swap_13 : decode cX7_swap 13 = .ok (.invokevirtual 23, 3) := by decide +kernel
theorem dX7_swap_16 : decode cX7_swap 16 = .ok (.aload_n 0, 1) := by decide +kernel
theorem dX7_swap_17 : decode cX7_swap 17 = .ok (.iload_n 2, 1) := by decide +kernel
theorem dX7_swap_18 : decode cX7_swap 18 = .ok (.iload_n 3, 1) := by decide +kernel
theorem dX7_swap_19 : decode cX7_swap 19 = .ok (.invokevirtual 23, 3) := by decide +kernel
theorem dX7_swap_22 : decode cX7_swap 22 = .ok (.return_, 1) := by decide +kernel
theorem dX7_turnToNext_0 : decode cX7_turnToNext 0 = .ok (.aload_n 0, 1) := by decide +kernel
theorem dX7_turnToNext_1 : decode cX7_turnToNext 1 = .ok (.getfield 15, 3) := by decide +kernel
theorem dX7_turnToNext_4 : decode cX7_turnToNext 4 = .ok (.iconst 2, 1) := by decide +kernel
theorem dX7_turnToNext_5 : decode cX7_turnToNext 5 = .ok (.isub, 1) := by decide +kernel
theorem dX7_turnToNext_6 : decode cX7_turnToNext 6 = .ok (.istore_n 1, 1) := by decide +kernel
theorem dX7_turnToNext_7 : decode cX7_turnToNext 7 = .ok (.iload_n 1, 1) := by decide +kernel
theorem dX7_turnToNext_8 : decode cX7_turnToNext 8 = .ok (.ifCond .lt 24, 3) := by decide +kernel
theorem dX7_turnToNext_11 : decode cX7_turnToNext 11 = .ok (.aload_n 0, 1) := by decide +kernel
theorem dX7_turnToNext_12 : decode cX7_turnToNext 12 = .ok (.iload_n 1, 1) := by decide +kernel
theorem dX7_turnToNext_13 : decode cX7_turnToNext 13 = .ok (.invokevirtual 19, 3) := by decide +kernel
theorem dX7_turnToNext_16 : decode cX7_turnToNext 16 = .ok (.aload_n 0, 1) := by decide +kernel
theorem dX7_turnToNext_17 : decode cX7_turnToNext 17 = .ok (.iload_n 1, 1) := by decide +kernel
theorem dX7_turnToNext_18 : decode cX7_turnToNext 18 = .ok (.iconst 1, 1) := by decide +kernel
theorem dX7_turnToNext_19 : decode cX7_turnToNext 19 = .ok (.iadd, 1) := by decide +kernel
theorem dX7_turnToNext_20 : decode cX7_turnToNext 20 = .ok (.invokevirtual 19, 3) := by decide +kernel
theorem dX7_turnToNext_23 : decode cX7_turnToNext 23 = .ok (.if_icmp .le 9, 3) := by decide +kernel
theorem dX7_turnToNext_26 : decode cX7_turnToNext 26 = .ok (.iinc 1 (-1), 3) := by decide +kernel
theorem dX7_turnToNext_29 : decode cX7_turnToNext 29 = .ok (.goto (-22), 3) := by decide +kernel
theorem dX7_turnToNext_32 : decode cX7_turnToNext 32 = .ok (.iload_n 1, 1) := by decide +kernel
theorem dX7_turnToNext_33 : decode cX7_turnToNext 33 = .ok (.ifCond .ge 5, 3) := by decide +kernel
theorem dX7_turnToNext_36 : decode cX7_turnToNext 36 = .ok (.iconst 0, 1) := by decide +kernel
theorem dX7_turnToNext_37 : decode cX7_turnToNext 37 = .ok (.ireturn, 1) := by decide +kernel
theorem dX7_turnToNext_38 : decode cX7_turnToNext 38 = .ok (.aload_n 0, 1) := by decide +kernel
theorem dX7_turnToNext_39 : decode cX7_turnToNext 39 = .ok (.getfield 15, 3) := by decide +kernel
theorem dX7_turnToNext_42 : decode cX7_turnToNext 42 = .ok (.iconst 1, 1) := by decide +kernel
theorem dX7_turnToNext_43 : decode cX7_turnToNext 43 = .ok (.isub, 1) := by decide +kernel
theorem dX7_turnToNext_44 : decode cX7_turnToNext 44 = .ok (.istore_n 2, 1) := by decide +kernel
theorem dX7_turnToNext_45 : decode cX7_turnToNext 45 = .ok (.iload_n 2, 1) := by decide +kernel
theorem dX7_turnToNext_46 : decode cX7_turnToNext 46 = .ok (.iload_n 1, 1) := by decide +kernel
theorem dX7_turnToNext_47 : decode cX7_turnToNext 47 = .ok (.if_icmp .le 22, 3) := by decide +kernel
theorem dX7_turnToNext_50 : decode cX7_turnToNext 50 = .ok (.aload_n 0, 1) := by decide +kernel
theorem dX7_turnToNext_51 : decode cX7_turnToNext 51 = .ok (.iload_n 2, 1) := by decide +kernel
theorem dX7_turnToNext_52 : decode cX7_turnToNext 52 = .ok (.invokevirtual 19, 3) := by decide +kernel
theorem dX7_turnToNext_55 : decode cX7_turnToNext 55 = .ok (.aload_n 0, 1) := by decide +kernel
theorem dX7_turnToNext_56 : decode cX7_turnToNext 56 = .ok (.iload_n 1, 1) := by decide +kernel
theorem dX7_turnToNext_57 : decode cX7_turnToNext 57 = .ok (.invokevirtual 19, 3) := by decide +kernel
theorem dX7_turnToNext_60 : decode cX7_turnToNext 60 = .ok (.if_icmp .ge 9, 3) := by decide +kernel
theorem dX7_turnToNext_63 : decode cX7_turnToNext 63 = .ok (.iinc 2 (-1), 3) := by decide +kernel
theorem dX7_turnToNext_66 : decode cX7_turnToNext 66 = .ok (.goto (-21), 3) := by decide +kernel
theorem dX7_turnToNext_69 : decode cX7_turnToNext 69 = .ok (.aload_n 0, 1) := by decide +kernel
theorem dX7_turnToNext_70 : decode cX7_turnToNext 70 = .ok (.iload_n 1, 1) := by decide +kernel
theorem dX7_turnToNext_71 : decode cX7_turnToNext 71 = .ok (.iload_n 2, 1) := by decide +kernel
theorem dX7_turnToNext_72 : decode cX7_turnToNext 72 = .ok (.invokevirtual 34, 3) := by decide +kernel
theorem dX7_turnToNext_75 : decode cX7_turnToNext 75 = .ok (.aload_n 0, 1) := by decide +kernel
theorem dX7_turnToNext_76 : decode cX7_turnToNext 76 = .ok (.iload_n 1, 1) := by decide +kernel
theorem dX7_turnToNext_77 : decode cX7_turnToNext 77 = .ok (.iconst 1, 1) := by decide +kernel
theorem dX7_turnToNext_78 : decode cX7_turnToNext 78 = .ok (.iadd, 1) := by decide +kernel
theorem dX7_turnToNext_79 : decode cX7_turnToNext 79 = .ok (.iconst 1, 1) := by decide +kernel
theorem dX7_turnToNext_80 : decode cX7_turnToNext 80 = .ok (.invokevirtual 37, 3) := by decide +kernel
theorem dX7_turnToNext_83 : decode cX7_turnToNext 83 = .ok (.iconst 1, 1) := by decide +kernel
theorem dX7_turnToNext_84 : decode cX7_turnToNext 84 = .ok (.ireturn, 1) := by decide +kernel
theorem dX8_init_0 : decode cX8_init 0 = .ok (.aload_n 0, 1) := by decide +kernel
theorem dX8_init_1 : decode cX8_init 1 = .ok (.invokespecial 3, 3) := by decide +kernel
theorem dX8_init_4 : decode cX8_init 4 = .ok (.aload_n 0, 1) := by decide +kernel
theorem dX8_init_5 : decode cX8_init 5 = .ok (.bipush 8, 2) := by decide +kernel
theorem dX8_init_7 : decode cX8_init 7 = .ok (.newarray .int, 2) := by decide +kernel
theorem dX8_init_9 : decode cX8_init 9 = .ok (.putfield 9, 3) := by decide +kernel
theorem dX8_init_12 : decode cX8_init 12 = .ok (.aload_n 0, 1) := by decide +kernel
theorem dX8_init_13 : decode cX8_init 13 = .ok (.aload_n 1, 1) := by decide +kernel
theorem dX8_init_14 : decode cX8_init 14 = .ok (.putfield 15, 3) := by decide +kernel
theorem dX8_init_17 : decode cX8_init 17 = .ok (.return_, 1) := by decide +kernel
theorem dX8_follow_0 : decode cX8_follow 0 = .ok (.aload_n 0, 1) := by decide +kernel
theorem dX8_follow_1 : decode cX8_follow 1 = .ok (.aload_n 1, 1) := by decide +kernel
theorem dX8_follow_2 : decode cX8_follow 2 = .ok (.getfield 19, 3) := by decide +kernel
theorem dX8_follow_5 : decode cX8_follow 5 = .ok (.putfield 25, 3) := by decide +kernel
theorem dX8_follow_8 : decode cX8_follow 8 = .ok (.aload_n 0, 1) := by decide +kernel
theorem dX8_follow_9 : decode cX8_follow 9 = .ok (.aload_n 1, 1) := by decide +kernel
theorem dX8_follow_10 : decode cX8_follow 10 = .ok (.getfield 26, 3) := by decide +kernel
theorem dX8_follow_13 : decode cX8_follow 13 = .ok (.putfield 29, 3) := by decide +kernel
theorem dX8_follow_16 : decode cX8_follow 16 = .ok (.aload_n 0, 1) := by decide +kernel
theorem dX8_follow_17 : decode cX8_follow 17 = .ok (.iconst 0, 1) := by decide +kernel
theorem dX8_follow_18 : decode cX8_follow 18 = .ok (.putfield 30, 3) := by decide +kernel
theorem dX8_follow_21 : decode cX8_follow 21 = .ok (.aload_n 0, 1) := by decide +kernel
theorem dX8_follow_22 : decode cX8_follow 22 = .ok (.aload_n 1, 1) := by decide +kernel
theorem dX8_follow_23 : decode cX8_follow 23 = .ok (.getfield 33, 3) := by decide +kernel
theorem dX8_follow_26 : decode cX8_follow 26 = .ok (.putfield 36, 3) := by decide +kernel
theorem dX8_follow_29 : decode cX8_follow 29 = .ok (.aload_n 0, 1) := by decide +kernel
theorem dX8_follow_30 : decode cX8_follow 30 = .ok (.aload_n 0, 1) := by decide +kernel
theorem dX8_follow_31 : decode cX8_follow 31 = .ok (.getfield 25, 3) := by decide +kernel
theorem dX8_follow_34 : decode cX8_follow 34 = .ok (.aload_n 0, 1) := by decide +kernel
theorem dX8_follow_35 : decode cX8_follow 35 = .ok (.getfield 29, 3) := by decide +kernel
theorem dX8_follow_38 : decode cX8_follow 38 = .ok (.aload_n 1, 1) := by decide +kernel
theorem dX8_follow_39 : decode cX8_follow 39 = .ok (.getfield 39, 3) := by decide +kernel
theorem dX8_follow_42 : decode cX8_follow 42 = .ok (.aload_n 1, 1) := by decide +kernel
theorem dX8_follow_43 : decode cX8_follow 43 = .ok (.getfield 42, 3) := by decide +kernel
theorem dX8_follow_46 : decode cX8_follow 46 = .ok (.invokestatic 45, 3) := by decide +kernel
theorem dX8_follow_49 : decode cX8_follow 49 = .ok (.putfield 49, 3) := by decide +kernel
theorem dX8_follow_52 : decode cX8_follow 52 = .ok (.aload_n 2, 1) := by decide +kernel
theorem dX8_follow_53 : decode cX8_follow 53 = .ok (.getfield 52, 3) := by decide +kernel
theorem dX8_follow_56 : decode cX8_follow 56 = .ok (.bipush 6, 2) := by decide +kernel
theorem dX8_follow_58 : decode cX8_follow 58 = .ok (.if_icmp .le 5, 3) := by decide +kernel
theorem dX8_follow_61 : decode cX8_follow 61 = .ok (.iconst 0, 1) := by decide +kernel
theorem dX8_follow_62 : decode cX8_follow 62 = .ok (.ireturn, 1) := by decide +kernel
theorem dX8_follow_63 : decode cX8_follow 63 = .ok (.iconst 0, 1) := by decide +kernel
theorem dX8_follow_64 : decode cX8_follow 64 = .ok (.istore 5, 2) := by decide +kernel
theorem dX8_follow_66 : decode cX8_follow 66 = .ok (.iload 5, 2) := by decide +kernel
theorem dX8_follow_68 : decode cX8_follow 68 = .ok (.aload_n 2, 1) := by decide +kernel
theorem dX8_follow_69 : decode cX8_follow 69 = .ok (.getfield 52, 3) := by decide +kernel
theorem dX8_follow_72 : decode cX8_follow 72 = .ok (.if_icmp .ge 59, 3) := by decide +kernel
theorem dX8_follow_75 : decode cX8_follow 75 = .ok (.aload_n 2, 1) := by decide +kernel
theorem dX8_follow_76 : decode cX8_follow 76 = .ok (.iload 5, 2) := by decide +kernel
theorem dX8_follow_78 : decode cX8_follow 78 = .ok (.invokevirtual 57, 3) := by decide +kernel
theorem dX8_follow_81 : decode cX8_follow 81 = .ok (.istore 6, 2) := by decide +kernel
theorem dX8_follow_83 : decode cX8_follow 83 = .ok (.aload_n 0, 1) := by decide +kernel
theorem dX8_follow_84 : decode cX8_follow 84 = .ok (.aload_n 1, 1) := by decide +kernel
theorem dX8_follow_85 : decode cX8_follow 85 = .ok (.iload 6, 2) := by decide +kernel
theorem dX8_follow_87 : decode cX8_follow 87 = .ok (.invokevirtual 61, 3) := by decide +kernel
theorem dX8_follow_90 : decode cX8_follow 90 = .ok (.aload_n 0, 1) := by decide +kernel
theorem dX8_follow_91 : decode cX8_follow 91 = .ok (.getfield 49, 3) := by decide +kernel
theorem dX8_follow_94 : decode cX8_follow 94 = .ok (.iload 4, 2) := by decide +kernel
theorem dX8_follow_96 : decode cX8_follow 96 = .ok (.if_icmp .ge 26, 3) := by decide +kernel
theorem dX8_follow_99 : decode cX8_follow 99 = .ok (.aload_n 0, 1) := by decide +kernel
theorem dX8_follow_100 : decode cX8_follow 100 = .ok (.getfield 49, 3) := by decide +kernel
theorem dX8_follow_103 : decode cX8_follow 103 = .ok (.aload_n 1, 1) := by decide +kernel
theorem dX8_follow_104 : decode cX8_follow 104 = .ok (.getfield 65, 3) := by decide +kernel
theorem dX8_follow_107 : decode cX8_follow 107 = .ok (.if_icmp .gt 15, 3) := by decide +kernel
theorem dX8_follow_110 : decode cX8_follow 110 = .ok (.aload_n 0, 1) := by decide +kernel
theorem dX8_follow_111 : decode cX8_follow 111 = .ok (.aload_n 1, 1) := by decide +kernel
theorem dX8_follow_112 : decode cX8_follow 112 = .ok (.aload_n 2, 1) := by decide +kernel
theorem dX8_follow_113 : decode cX8_follow 113 = .ok (.iload 5, 2) := by decide +kernel
theorem dX8_follow_115 : decode cX8_follow 115 = .ok (.iload_n 3, 1) := by decide +kernel
theorem dX8_follow_116 : decode cX8_follow 116 = .ok (.invokevirtual 68, 3) := by decide +kernel
theorem dX8_follow_119 : decode cX8_follow 119 = .ok (.ifCond .ne 6, 3) := by decide +kernel
theorem dX8_follow_122 : decode cX8_follow 122 = .ok (.iload 5, 2) := by decide +kernel
theorem dX8_follow_124 : decode cX8_follow 124 = .ok (.ireturn, 1) := by decide +kernel
theorem dX8_follow_125 : decode cX8_follow 125 = .ok (.iinc 5 1, 3) := by decide +kernel
theorem dX8_follow_128 : decode cX8_follow 128 = .ok (.goto (-62), 3) := by decide +kernel
theorem dX8_follow_131 : decode cX8_follow 131 = .ok (.iconst (-1), 1) := by decide +kernel
theorem dX8_follow_132 : decode cX8_follow 132 = .ok (.ireturn, 1) := by decide +kernel
theorem dX8_goTo_0 : decode cX8_goTo 0 = .ok (.aload_n 0, 1) := by decide +kernel
theorem dX8_goTo_1 : decode cX8_goTo 1 = .ok (.dup, 1) := by decide +kernel
theorem dX8_goTo_2 : decode cX8_goTo 2 = .ok (.getfield 30, 3) := by decide +kernel
theorem dX8_goTo_5 : decode cX8_goTo 5 = .ok (.aload_n 0, 1) := by decide +kernel
theorem dX8_goTo_6 : decode cX8_goTo 6 = .ok (.getfield 15, 3) := by decide +kernel
theorem dX8_goTo_9 : decode cX8_goTo 9 = .ok (.iload_n 2, 1) := by decide +kernel
theorem dX8_goTo_10 : decode cX8_goTo 10 = .ok (.aload_n 0, 1) := by decide +kernel
theorem dX8_goTo_11 : decode cX8_goTo 11 = .ok (.getfield 25, 3) := by decide +kernel
theorem dX8_goTo_14 : decode cX8_goTo 14 = .ok (.aload_n 0, 1) := by decide +kernel
theorem dX8_goTo_15 : decode cX8_goTo 15 = .ok (.getfield 29, 3) := by decide +kernel
theorem dX8_goTo_18 : decode cX8_goTo 18 = .ok (.invokevirtual 72, 3) := by decide +kernel
theorem dX8_goTo_21 : decode cX8_goTo 21 = .ok (.iadd, 1) := by decide +kernel
theorem dX8_goTo_22 : decode cX8_goTo 22 = .ok (.putfield 30, 3) := by decide +kernel
theorem dX8_goTo_25 : decode cX8_goTo 25 = .ok (.aload_n 0, 1) := by decide +kernel
theorem dX8_goTo_26 : decode cX8_goTo 26 = .ok (.aload_n 0, 1) := by decide +kernel
theorem dX8_goTo_27 : decode cX8_goTo 27 = .ok (.getfield 15, 3) := by decide +kernel
theorem dX8_goTo_30 : decode cX8_goTo 30 = .ok (.iload_n 2, 1) := by decide +kernel
theorem dX8_goTo_31 : decode cX8_goTo 31 = .ok (.invokevirtual 78, 3) := by decide +kernel
theorem dX8_goTo_34 : decode cX8_goTo 34 = .ok (.putfield 25, 3) := by decide +kernel
theorem dX8_goTo_37 : decode cX8_goTo 37 = .ok (.aload_n 0, 1) := by decide +kernel
theorem dX8_goTo_38 : decode cX8_goTo 38 = .ok (.aload_n 0, 1) := by decide +kernel
theorem dX8_goTo_39 : decode cX8_goTo 39 = .ok (.getfield 15, 3) := by decide +kernel
theorem dX8_goTo_42 : decode cX8_goTo 42 = .ok (.iload_n 2, 1) := by decide +kernel
theorem dX8_goTo_43 : decode cX8_goTo 43 = .ok (.invokevirtual 81, 3) := by decide +kernel
theorem dX8_goTo_46 : decode cX8_goTo 46 = .ok (.putfield 29, 3) := by decide +kernel
theorem dX8_goTo_49 : decode cX8_goTo 49 = .ok (.aload_n 0, 1) := by decide +kernel
theorem dX8_goTo_50 : decode cX8_goTo 50 = .ok (.aload_n 0, 1) := by decide +kernel
theorem dX8_goTo_51 : decode cX8_goTo 51 = .ok (.getfield 30, 3) := by decide +kernel
theorem dX8_goTo_54 : decode cX8_goTo 54 = .ok (.aload_n 0, 1) := by decide +kernel
theorem dX8_goTo_55 : decode cX8_goTo 55 = .ok (.getfield 25, 3) := by decide +kernel
theorem dX8_goTo_58 : decode cX8_goTo 58 = .ok (.aload_n 0, 1) := by decide +kernel
theorem dX8_goTo_59 : decode cX8_goTo 59 = .ok (.getfield 29, 3) := by decide +kernel
theorem dX8_goTo_62 : decode cX8_goTo 62 = .ok (.aload_n 1, 1) := by decide +kernel
theorem dX8_goTo_63 : decode cX8_goTo 63 = .ok (.getfield 39, 3) := by decide +kernel
theorem dX8_goTo_66 : decode cX8_goTo 66 = .ok (.aload_n 1, 1) := by decide +kernel
theorem dX8_goTo_67 : decode cX8_goTo 67 = .ok (.getfield 42, 3) := by decide +kernel
theorem dX8_goTo_70 : decode cX8_goTo 70 = .ok (.invokestatic 45, 3) := by decide +kernel
theorem dX8_goTo_73 : decode cX8_goTo 73 = .ok (.iadd, 1) := by decide +kernel
theorem dX8_goTo_74 : decode cX8_goTo 74 = .ok (.putfield 49, 3) := by decide +kernel
theorem dX8_goTo_77 : decode cX8_goTo 77 = .ok (.return_, 1) := by decide +kernel
theorem dX8_canMake_0 : decode cX8_canMake 0 = .ok (.aload_n 2, 1) := by decide +kernel
theorem dX8_canMake_1 : decode cX8_canMake 1 = .ok (.iload_n 3, 1) := by decide +kernel
theorem dX8_canMake_2 : decode cX8_canMake 2 = .ok (.invokevirtual 57, 3) := by decide +kernel
theorem dX8_canMake_5 : decode cX8_canMake 5 = .ok (.istore 5, 2) := by decide +kernel
theorem dX8_canMake_7 : decode cX8_canMake 7 = .ok (.aload_n 0, 1) := by decide +kernel
theorem dX8_canMake_8 : decode cX8_canMake 8 = .ok (.getfield 15, 3) := by decide +kernel
theorem dX8_canMake_11 : decode cX8_canMake 11 = .ok (.iload 5, 2) := by decide +kernel
theorem dX8_canMake_13 : decode cX8_canMake 13 = .ok (.invokestatic 84, 3) := by decide +kernel
theorem dX8_canMake_16 : decode cX8_canMake 16 = .ok (.invokevirtual 87, 3) := by decide +kernel
theorem dX8_canMake_19 : decode cX8_canMake 19 = .ok (.astore 6, 2) := by decide +kernel
theorem dX8_canMake_21 : decode cX8_canMake 21 = .ok (.iload 4, 2) := by decide +kernel
theorem dX8_canMake_23 : decode cX8_canMake 23 = .ok (.aload_n 0, 1) := by decide +kernel
theorem dX8_canMake_24 : decode cX8_canMake 24 = .ok (.getfield 30, 3) := by decide +kernel
theorem dX8_canMake_27 : decode cX8_canMake 27 = .ok (.iadd, 1) := by decide +kernel
theorem dX8_canMake_28 : decode cX8_canMake 28 = .ok (.istore 7, 2) := by decide +kernel
theorem dX8_canMake_30 : decode cX8_canMake 30 = .ok (.iload_n 3, 1) := by decide +kernel
theorem dX8_canMake_31 : decode cX8_canMake 31 = .ok (.ifCond .lt 20, 3) := by decide +kernel
theorem dX8_canMake_34 : decode cX8_canMake 34 = .ok (.iload_n 3, 1) := by decide +kernel
theorem dX8_canMake_35 : decode cX8_canMake 35 = .ok (.aload_n 0, 1) := by decide +kernel
theorem dX8_canMake_36 : decode cX8_canMake 36 = .ok (.getfield 9, 3) := by decide +kernel
theorem dX8_canMake_39 : decode cX8_canMake 39 = .ok (.arraylength, 1) := by decide +kernel
theorem dX8_canMake_40 : decode cX8_canMake 40 = .ok (.if_icmp .ge 11, 3) := by decide +kernel
theorem dX8_canMake_43 : decode cX8_canMake 43 = .ok (.aload_n 0, 1) := by decide +kernel
theorem dX8_canMake_44 : decode cX8_canMake 44 = .ok (.getfield 9, 3) := by decide +kernel
theorem dX8_canMake_47 : decode cX8_canMake 47 = .ok (.iload_n 3, 1) := by decide +kernel
theorem dX8_canMake_48 : decode cX8_canMake 48 = .ok (.iload 7, 2) := by decide +kernel
theorem dX8_canMake_50 : decode cX8_canMake 50 = .ok (.iastore, 1) := by decide +kernel
theorem dX8_canMake_51 : decode cX8_canMake 51 = .ok (.iload 5, 2) := by decide +kernel
theorem dX8_canMake_53 : decode cX8_canMake 53 = .ok (.invokestatic 91, 3) := by decide +kernel
theorem dX8_canMake_56 : decode cX8_canMake 56 = .ok (.ifCond .eq 44, 3) := by decide +kernel
theorem dX8_canMake_59 : decode cX8_canMake 59 = .ok (.aload_n 0, 1) := by decide +kernel
theorem dX8_canMake_60 : decode cX8_canMake 60 = .ok (.dup, 1) := by decide +kernel
theorem dX8_canMake_61 : decode cX8_canMake 61 = .ok (.getfield 36, 3) := by decide +kernel
theorem dX8_canMake_64 : decode cX8_canMake 64 = .ok (.aload 6, 2) := by decide +kernel
theorem dX8_canMake_66 : decode cX8_canMake 66 = .ok (.getfield 95, 3) := by decide +kernel
theorem dX8_canMake_69 : decode cX8_canMake 69 = .ok (.iadd, 1) := by decide +kernel
theorem dX8_canMake_70 : decode cX8_canMake 70 = .ok (.putfield 36, 3) := by decide +kernel
theorem dX8_canMake_73 : decode cX8_canMake 73 = .ok (.aload_n 0, 1) := by decide +kernel
theorem dX8_canMake_74 : decode cX8_canMake 74 = .ok (.getfield 36, 3) := by decide +kernel
theorem dX8_canMake_77 : decode cX8_canMake 77 = .ok (.aload_n 1, 1) := by decide +kernel
theorem dX8_canMake_78 : decode cX8_canMake 78 = .ok (.getfield 98, 3) := by decide +kernel
theorem dX8_canMake_81 : decode cX8_canMake 81 = .ok (.if_icmp .gt 17, 3) := by decide +kernel
theorem dX8_canMake_84 : decode cX8_canMake 84 = .ok (.iload 7, 2) := by decide +kernel
theorem dX8_canMake_86 : decode cX8_canMake 86 = .ok (.aload 6, 2) := by decide +kernel
theorem dX8_canMake_88 : decode cX8_canMake 88 = .ok (.getfield 101, 3) := by decide +kernel
theorem dX8_canMake_91 : decode cX8_canMake 91 = .ok (.if_icmp .gt 7, 3) := by decide +kernel
theorem dX8_canMake_94 : decode cX8_canMake 94 = .ok (.iconst 1, 1) := by decide +kernel
theorem dX8_canMake_95 : decode cX8_canMake 95 = .ok (.goto 4, 3) := by decide +kernel
theorem dX8_canMake_98 : decode cX8_canMake 98 = .ok (.iconst 0, 1) := by decide +kernel
theorem dX8_canMake_99 : decode cX8_canMake 99 = .ok (.ireturn, 1) := by decide +kernel
theorem dX8_canMake_100 : decode cX8_canMake 100 = .ok (.aload_n 0, 1) := by decide +kernel
theorem dX8_canMake_101 : decode cX8_canMake 101 = .ok (.dup, 1) := by decide +kernel
theorem dX8_canMake_102 : decode cX8_canMake 102 = .ok (.getfield 36, 3) := by decide +kernel
theorem dX8_canMake_105 : decode cX8_canMake 105 = .ok (.aload 6, 2) := by decide +kernel
theorem dX8_canMake_107 : decode cX8_canMake 107 = .ok (.getfield 95, 3) := by decide +kernel
theorem dX8_canMake_110 : decode cX8_canMake 110 = .ok (.isub, 1) := by decide +kernel
theorem dX8_canMake_111 : decode cX8_canMake 111 = .ok (.putfield 36, 3) := by decide +kernel
theorem dX8_canMake_114 : decode cX8_canMake 114 = .ok (.aload_n 2, 1) := by decide +kernel
theorem dX8_canMake_115 : decode cX8_canMake 115 = .ok (.iload 5, 2) := by decide +kernel
theorem dX8_canMake_117 : decode cX8_canMake 117 = .ok (.invokestatic 84, 3) := by decide +kernel
theorem dX8_canMake_120 : decode cX8_canMake 120 = .ok (.invokestatic 104, 3) := by decide +kernel
theorem dX8_canMake_123 : decode cX8_canMake 123 = .ok (.invokevirtual 107, 3) := by decide +kernel
theorem dX8_canMake_126 : decode cX8_canMake 126 = .ok (.istore 8, 2) := by decide +kernel
theorem dX8_canMake_128 : decode cX8_canMake 128 = .ok (.iload 8, 2) := by decide +kernel
theorem dX8_canMake_130 : decode cX8_canMake 130 = .ok (.iload_n 3, 1) := by decide +kernel
theorem dX8_canMake_131 : decode cX8_canMake 131 = .ok (.if_icmp .le 5, 3) := by decide +kernel
theorem dX8_canMake_134 : decode cX8_canMake 134 = .ok (.iconst 0, 1) := by decide +kernel
theorem dX8_canMake_135 : decode cX8_canMake 135 = .ok (.ireturn, 1) := by decide +kernel
theorem dX8_canMake_136 : decode cX8_canMake 136 = .ok (.iload 8, 2) := by decide +kernel
theorem dX8_canMake_138 : decode cX8_canMake 138 = .ok (.ifCond .lt 23, 3) := by decide +kernel
theorem dX8_canMake_141 : decode cX8_canMake 141 = .ok (.iload 8, 2) := by decide +kernel
theorem dX8_canMake_143 : decode cX8_canMake 143 = .ok (.aload_n 0, 1) := by decide +kernel
theorem dX8_canMake_144 : decode cX8_canMake 144 = .ok (.getfield 9, 3) := by decide +kernel
theorem dX8_canMake_147 : decode cX8_canMake 147 = .ok (.arraylength, 1) := by decide +kernel
theorem dX8_canMake_148 : decode cX8_canMake 148 = .ok (.if_icmp .ge 13, 3) := by decide +kernel
theorem dX8_canMake_151 : decode cX8_canMake 151 = .ok (.aload_n 0, 1) := by decide +kernel
theorem dX8_canMake_152 : decode cX8_canMake 152 = .ok (.getfield 9, 3) := by decide +kernel
theorem dX8_canMake_155 : decode cX8_canMake 155 = .ok (.iload 8, 2) := by decide +kernel
theorem dX8_canMake_157 : decode cX8_canMake 157 = .ok (.iaload, 1) := by decide +kernel
theorem dX8_canMake_158 : decode cX8_canMake 158 = .ok (.goto 8, 3) := by decide +kernel
theorem dX8_canMake_161 : decode cX8_canMake 161 = .ok (.aload 6, 2) := by decide +kernel
theorem dX8_canMake_163 : decode cX8_canMake 163 = .ok (.getfield 110, 3) := by decide +kernel
theorem dX8_canMake_166 : decode cX8_canMake 166 = .ok (.istore 9, 2) := by decide +kernel
theorem dX8_canMake_168 : decode cX8_canMake 168 = .ok (.iload 7, 2) := by decide +kernel
theorem dX8_canMake_170 : decode cX8_canMake 170 = .ok (.iload 9, 2) := by decide +kernel
theorem dX8_canMake_172 : decode cX8_canMake 172 = .ok (.isub, 1) := by decide +kernel
theorem dX8_canMake_173 : decode cX8_canMake 173 = .ok (.aload 6, 2) := by decide +kernel
theorem dX8_canMake_175 : decode cX8_canMake 175 = .ok (.getfield 113, 3) := by decide +kernel
theorem dX8_canMake_178 : decode cX8_canMake 178 = .ok (.if_icmp .gt 7, 3) := by decide +kernel
theorem dX8_canMake_181 : decode cX8_canMake 181 = .ok (.iconst 1, 1) := by decide +kernel
theorem dX8_canMake_182 : decode cX8_canMake 182 = .ok (.goto 4, 3) := by decide +kernel
theorem dX8_canMake_185 : decode cX8_canMake 185 = .ok (.iconst 0, 1) := by decide +kernel
theorem dX8_canMake_186 : decode cX8_canMake 186 = .ok (.ireturn, 1) := by decide +kernel
theorem dX9_init_0 : decode cX9_init 0 = .ok (.aload_n 0, 1) := by decide +kernel
theorem dX9_init_1 : decode cX9_init 1 = .ok (.invokespecial 3, 3) := by decide +kernel
theorem dX9_init_4 : decode cX9_init 4 = .ok (.aload_n 0, 1) := by decide +kernel
theorem dX9_init_5 : decode cX9_init 5 = .ok (.new 9, 3) := by decide +kernel
theorem dX9_init_8 : decode cX9_init 8 = .ok (.dup, 1) := by decide +kernel
theorem dX9_init_9 : decode cX9_init 9 = .ok (.invokespecial 11, 3) := by decide +kernel
theorem dX9_init_12 : decode cX9_init 12 = .ok (.putfield 12, 3) := by decide +kernel
theorem dX9_init_15 : decode cX9_init 15 = .ok (.aload_n 0, 1) := by decide +kernel
theorem dX9_init_16 : decode cX9_init 16 = .ok (.new 16, 3) := by decide +kernel
theorem dX9_init_19 : decode cX9_init 19 = .ok (.dup, 1) := by decide +kernel
theorem dX9_init_20 : decode cX9_init 20 = .ok (.invokespecial 18, 3) := by decide +kernel
theorem dX9_init_23 : decode cX9_init 23 = .ok (.putfield 19, 3) := by decide +kernel
theorem dX9_init_26 : decode cX9_init 26 = .ok (.aload_n 0, 1) := by decide +kernel
theorem dX9_init_27 : decode cX9_init 27 = .ok (.new 23, 3) := by decide +kernel
theorem dX9_init_30 : decode cX9_init 30 = .ok (.dup, 1) := by decide +kernel
theorem dX9_init_31 : decode cX9_init 31 = .ok (.invokespecial 25, 3) := by decide +kernel
theorem dX9_init_34 : decode cX9_init 34 = .ok (.putfield 26, 3) := by decide +kernel
theorem dX9_init_37 : decode cX9_init 37 = .ok (.aload_n 0, 1) := by decide +kernel
theorem dX9_init_38 : decode cX9_init 38 = .ok (.new 30, 3) := by decide +kernel
theorem dX9_init_41 : decode cX9_init 41 = .ok (.dup, 1) := by decide +kernel
theorem dX9_init_42 : decode cX9_init 42 = .ok (.aload_n 0, 1) := by decide +kernel
theorem dX9_init_43 : decode cX9_init 43 = .ok (.getfield 19, 3) := by decide +kernel
theorem dX9_init_46 : decode cX9_init 46 = .ok (.invokespecial 32, 3) := by decide +kernel
theorem dX9_init_49 : decode cX9_init 49 = .ok (.putfield 35, 3) := by decide +kernel
theorem dX9_init_52 : decode cX9_init 52 = .ok (.new 39, 3) := by decide +kernel
theorem dX9_init_55 : decode cX9_init 55 = .ok (.dup, 1) := by decide +kernel
theorem dX9_init_56 : decode cX9_init 56 = .ok (.aload_n 0, 1) := by decide +kernel
theorem dX9_init_57 : decode cX9_init 57 = .ok (.getfield 19, 3) := by decide +kernel
theorem dX9_init_60 : decode cX9_init 60 = .ok (.invokespecial 41, 3) := by decide +kernel
theorem dX9_init_63 : decode cX9_init 63 = .ok (.astore_n 1, 1) := by decide +kernel
theorem dX9_init_64 : decode cX9_init 64 = .ok (.aload_n 0, 1) := by decide +kernel
theorem dX9_init_65 : decode cX9_init 65 = .ok (.new 42, 3) := by decide +kernel
theorem dX9_init_68 : decode cX9_init 68 = .ok (.dup, 1) := by decide +kernel
theorem dX9_init_69 : decode cX9_init 69 = .ok (.aload_n 0, 1) := by decide +kernel
theorem dX9_init_70 : decode cX9_init 70 = .ok (.getfield 35, 3) := by decide +kernel
theorem dX9_init_73 : decode cX9_init 73 = .ok (.aload_n 1, 1) := by decide +kernel
theorem dX9_init_74 : decode cX9_init 74 = .ok (.invokespecial 44, 3) := by decide +kernel
theorem dX9_init_77 : decode cX9_init 77 = .ok (.putfield 47, 3) := by decide +kernel
theorem dX9_init_80 : decode cX9_init 80 = .ok (.aload_n 0, 1) := by decide +kernel
theorem dX9_init_81 : decode cX9_init 81 = .ok (.new 51, 3) := by decide +kernel
theorem dX9_init_84 : decode cX9_init 84 = .ok (.dup, 1) := by decide +kernel
theorem dX9_init_85 : decode cX9_init 85 = .ok (.aload_n 0, 1) := by decide +kernel
theorem dX9_init_86 : decode cX9_init 86 = .ok (.getfield 35, 3) := by decide +kernel
theorem dX9_init_89 : decode cX9_init 89 = .ok (.aload_n 1, 1) := by decide +kernel
theorem dX9_init_90 : decode cX9_init 90 = .ok (.invokespecial 53, 3) := by decide +kernel
theorem dX9_init_93 : decode cX9_init 93 = .ok (.putfield 54, 3) := by decide +kernel
theorem dX9_init_96 : decode cX9_init 96 = .ok (.aload_n 0, 1) := by decide +kernel
theorem dX9_init_97 : decode cX9_init 97 = .ok (.iconst 0, 1) := by decide +kernel
theorem dX9_init_98 : decode cX9_init 98 = .ok (.putfield 58, 3) := by decide +kernel
theorem dX9_init_101 : decode cX9_init 101 = .ok (.aload_n 0, 1) := by decide +kernel
theorem dX9_init_102 : decode cX9_init 102 = .ok (.bipush 50, 2) := by decide +kernel
theorem dX9_init_104 : decode cX9_init 104 = .ok (.putfield 62, 3) := by decide +kernel
theorem dX9_init_107 : decode cX9_init 107 = .ok (.aload_n 0, 1) := by decide +kernel
theorem dX9_init_108 : decode cX9_init 108 = .ok (.bipush 15, 2) := by decide +kernel
theorem dX9_init_110 : decode cX9_init 110 = .ok (.putfield 65, 3) := by decide +kernel
theorem dX9_init_113 : decode cX9_init 113 = .ok (.return_, 1) := by decide +kernel
theorem dX9_setDetour_0 : decode cX9_setDetour 0 = .ok (.iload_n 1, 1) := by decide +kernel
theorem dX9_setDetour_1 : decode cX9_setDetour 1 = .ok (.iconst 0, 1) := by decide +kernel
theorem dX9_setDetour_2 : decode cX9_setDetour 2 = .ok (.sipush 200, 3) := by decide +kernel
theorem dX9_setDetour_5 : decode cX9_setDetour 5 = .ok (.invokestatic 68, 3) := by decide +kernel
theorem dX9_setDetour_8 : decode cX9_setDetour 8 = .ok (.ifCond .ne 13, 3) := by decide +kernel
theorem dX9_setDetour_11 : decode cX9_setDetour 11 = .ok (.new 72, 3) := by decide +kernel
theorem dX9_setDetour_14 : decode cX9_setDetour 14 = .ok (.dup, 1) := by decide +kernel
theorem dX9_setDetour_15 : decode cX9_setDetour 15 = .ok (.ldc 74, 2) := by decide +kernel
theorem dX9_setDetour_17 : decode cX9_setDetour 17 = .ok (.invokespecial 76, 3) := by decide +kernel
theorem dX9_setDetour_20 : decode cX9_setDetour 20 = .ok (.athrow, 1) := by decide +kernel
theorem dX9_setDetour_21 : decode cX9_setDetour 21 = .ok (.aload_n 0, 1) := by decide +kernel
theorem dX9_setDetour_22 : decode cX9_setDetour 22 = .ok (.getfield 62, 3) := by decide +kernel
theorem dX9_setDetour_25 : decode cX9_setDetour 25 = .ok (.istore_n 2, 1) := by decide +kernel
theorem dX9_setDetour_26 : decode cX9_setDetour 26 = .ok (.aload_n 0, 1) := by decide +kernel
theorem dX9_setDetour_27 : decode cX9_setDetour 27 = .ok (.iload_n 1, 1) := by decide +kernel
theorem dX9_setDetour_28 : decode cX9_setDetour 28 = .ok (.putfield 62, 3) := by decide +kernel
theorem dX9_setDetour_31 : decode cX9_setDetour 31 = .ok (.iload_n 2, 1) := by decide +kernel
theorem dX9_setDetour_32 : decode cX9_setDetour 32 = .ok (.ireturn, 1) := by decide +kernel
theorem dX9_setWait_0 : decode cX9_setWait 0 = .ok (.iload_n 1, 1) := by decide +kernel
theorem dX9_setWait_1 : decode cX9_setWait 1 = .ok (.iconst 0, 1) := by decide +kernel
theorem dX9_setWait_2 : decode cX9_setWait 2 = .ok (.bipush 60, 2) := by decide +kernel
theorem dX9_setWait_4 : decode cX9_setWait 4 = .ok (.invokestatic 68, 3) := by decide +kernel
theorem dX9_setWait_7 : decode cX9_setWait 7 = .ok (.ifCond .ne 13, 3) := by decide +kernel
theorem dX9_setWait_10 : decode cX9_setWait 10 = .ok (.new 72, 3) := by decide +kernel
theorem dX9_setWait_13 : decode cX9_setWait 13 = .ok (.dup, 1) := by decide +kernel
theorem dX9_setWait_14 : decode cX9_setWait 14 = .ok (.ldc 79, 2) := by decide +kernel
theorem dX9_setWait_16 : decode cX9_setWait 16 = .ok (.invokespecial 76, 3) := by decide +kernel
theorem dX9_setWait_19 : decode cX9_setWait 19 = .ok (.athrow, 1) := by decide +kernel
theorem dX9_setWait_20 : decode cX9_setWait 20 = .ok (.aload_n 0, 1) := by decide +kernel
theorem dX9_setWait_21 : decode cX9_setWait 21 = .ok (.getfield 65, 3) := by decide +kernel
theorem dX9_setWait_24 : decode cX9_setWait 24 = .ok (.istore_n 2, 1) := by decide +kernel
theorem dX9_setWait_25 : decode cX9_setWait 25 = .ok (.aload_n 0, 1) := by decide +kernel
theorem dX9_setWait_26 : decode cX9_setWait 26 = .ok (.iload_n 1, 1) := by decide +kernel
theorem dX9_setWait_27 : decode cX9_setWait 27 = .ok (.putfield 65, 3) := by decide +kernel
theorem dX9_setWait_30 : decode cX9_setWait 30 = .ok (.iload_n 2, 1) := by decide +kernel
theorem dX9_setWait_31 : decode cX9_setWait 31 = .ok (.ireturn, 1) := by decide +kernel
theorem dX9_addBus_0 : decode cX9_addBus 0 = .ok (.iload_n 1, 1) := by decide +kernel
theorem dX9_addBus_1 : decode cX9_addBus 1 = .ok (.iconst 1, 1) := by decide +kernel
theorem dX9_addBus_2 : decode cX9_addBus 2 = .ok (.bipush 6, 2) := by decide +kernel
theorem dX9_addBus_4 : decode cX9_addBus 4 = .ok (.invokestatic 68, 3) := by decide +kernel
theorem dX9_addBus_7 : decode cX9_addBus 7 = .ok (.ifCond .eq 24, 3) := by decide +kernel
theorem dX9_addBus_10 : decode cX9_addBus 10 = .ok (.iload_n 2, 1) := by decide +kernel
theorem dX9_addBus_11 : decode cX9_addBus 11 = .ok (.bipush 20, 2) := by decide +kernel
theorem dX9_addBus_13 : decode cX9_addBus 13 = .ok (.sipush 200, 3) := by decide +kernel
theorem dX9_addBus_16 : decode cX9_addBus 16 = .ok (.invokestatic 68, 3) := by decide +kernel
theorem dX9_addBus_19 : decode cX9_addBus 19 = .ok (.ifCond .eq 12, 3) := by decide +kernel
theorem dX9_addBus_22 : decode cX9_addBus 22 = .ok (.iload_n 3, 1) := by decide +kernel
theorem dX9_addBus_23 : decode cX9_addBus 23 = .ok (.iload 4, 2) := by decide +kernel
theorem dX9_addBus_25 : decode cX9_addBus 25 = .ok (.invokestatic 81, 3) := by decide +kernel
theorem dX9_addBus_28 : decode cX9_addBus 28 = .ok (.ifCond .ne 13, 3) := by decide +kernel
theorem dX9_addBus_31 : decode cX9_addBus 31 = .ok (.new 72, 3) := by decide +kernel
theorem dX9_addBus_34 : decode cX9_addBus 34 = .ok (.dup, 1) := by decide +kernel
theorem dX9_addBus_35 : decode cX9_addBus 35 = .ok (.ldc 85, 2) := by decide +kernel
theorem dX9_addBus_37 : decode cX9_addBus 37 = .ok (.invokespecial 76, 3) := by decide +kernel
theorem dX9_addBus_40 : decode cX9_addBus 40 = .ok (.athrow, 1) := by decide +kernel
theorem dX9_addBus_41 : decode cX9_addBus 41 = .ok (.aload_n 0, 1) := by decide +kernel
theorem dX9_addBus_42 : decode cX9_addBus 42 = .ok (.getfield 12, 3) := by decide +kernel
theorem dX9_addBus_45 : decode cX9_addBus 45 = .ok (.invokevirtual 87, 3) := by decide +kernel
theorem dX9_addBus_48 : decode cX9_addBus 48 = .ok (.istore 5, 2) := by decide +kernel
theorem dX9_addBus_50 : decode cX9_addBus 50 = .ok (.iload 5, 2) := by decide +kernel
theorem dX9_addBus_52 : decode cX9_addBus 52 = .ok (.iconst 4, 1) := by decide +kernel
theorem dX9_addBus_53 : decode cX9_addBus 53 = .ok (.if_icmp .lt 13, 3) := by decide +kernel
theorem dX9_addBus_56 : decode cX9_addBus 56 = .ok (.new 91, 3) := by decide +kernel
theorem dX9_addBus_59 : decode cX9_addBus 59 = .ok (.dup, 1) := by decide +kernel
theorem dX9_addBus_60 : decode cX9_addBus 60 = .ok (.ldc 93, 2) := by decide +kernel
theorem dX9_addBus_62 : decode cX9_addBus 62 = .ok (.invokespecial 95, 3) := by decide +kernel
theorem dX9_addBus_65 : decode cX9_addBus 65 = .ok (.athrow, 1) := by decide +kernel
theorem dX9_addBus_66 : decode cX9_addBus 66 = .ok (.aload_n 0, 1) := by decide +kernel
theorem dX9_addBus_67 : decode cX9_addBus 67 = .ok (.getfield 12, 3) := by decide +kernel
theorem dX9_addBus_70 : decode cX9_addBus 70 = .ok (.new 96, 3) := by decide +kernel
theorem dX9_addBus_73 : decode cX9_addBus 73 = .ok (.dup, 1) := by decide +kernel
theorem dX9_addBus_74 : decode cX9_addBus 74 = .ok (.iload 5, 2) := by decide +kernel
theorem dX9_addBus_76 : decode cX9_addBus 76 = .ok (.iload_n 1, 1) := by decide +kernel
theorem dX9_addBus_77 : decode cX9_addBus 77 = .ok (.iload_n 2, 1) := by decide +kernel
theorem dX9_addBus_78 : decode cX9_addBus 78 = .ok (.iload_n 3, 1) := by decide +kernel
theorem dX9_addBus_79 : decode cX9_addBus 79 = .ok (.iload 4, 2) := by decide +kernel
theorem dX9_addBus_81 : decode cX9_addBus 81 = .ok (.invokespecial 98, 3) := by decide +kernel
theorem dX9_addBus_84 : decode cX9_addBus 84 = .ok (.invokevirtual 101, 3) := by decide +kernel
theorem dX9_addBus_87 : decode cX9_addBus 87 = .ok (.pop, 1) := by decide +kernel
theorem dX9_addBus_88 : decode cX9_addBus 88 = .ok (.iload 5, 2) := by decide +kernel
theorem dX9_addBus_90 : decode cX9_addBus 90 = .ok (.ireturn, 1) := by decide +kernel
theorem dX9_request_0 : decode cX9_request 0 = .ok (.aload_n 0, 1) := by decide +kernel
theorem dX9_request_1 : decode cX9_request 1 = .ok (.iload_n 1, 1) := by decide +kernel
theorem dX9_request_2 : decode cX9_request 2 = .ok (.iload_n 2, 1) := by decide +kernel
theorem dX9_request_3 : decode cX9_request 3 = .ok (.iload_n 3, 1) := by decide +kernel
theorem dX9_request_4 : decode cX9_request 4 = .ok (.iload 4, 2) := by decide +kernel
theorem dX9_request_6 : decode cX9_request 6 = .ok (.iload 5, 2) := by decide +kernel
theorem dX9_request_8 : decode cX9_request 8 = .ok (.invokevirtual 105, 3) := by decide +kernel
theorem dX9_request_11 : decode cX9_request 11 = .ok (.aload_n 0, 1) := by decide +kernel
theorem dX9_request_12 : decode cX9_request 12 = .ok (.getfield 19, 3) := by decide +kernel
theorem dX9_request_15 : decode cX9_request 15 = .ok (.invokevirtual 108, 3) := by decide +kernel
theorem dX9_request_18 : decode cX9_request 18 = .ok (.istore 6, 2) := by decide +kernel
theorem dX9_request_20 : decode cX9_request 20 = .ok (.iload 6, 2) := by decide +kernel
theorem dX9_request_22 : decode cX9_request 22 = .ok (.bipush 30, 2) := by decide +kernel
theorem dX9_request_24 : decode cX9_request 24 = .ok (.if_icmp .lt 13, 3) := by decide +kernel
theorem dX9_request_27 : decode cX9_request 27 = .ok (.new 91, 3) := by decide +kernel
theorem dX9_request_30 : decode cX9_request 30 = .ok (.dup, 1) := by decide +kernel
theorem dX9_request_31 : decode cX9_request 31 = .ok (.ldc 111, 2) := by decide +kernel
theorem dX9_request_33 : decode cX9_request 33 = .ok (.invokespecial 95, 3) := by decide +kernel
theorem dX9_request_36 : decode cX9_request 36 = .ok (.athrow, 1) := by decide +kernel
theorem dX9_request_37 : decode cX9_request 37 = .ok (.aload_n 0, 1) := by decide +kernel
theorem dX9_request_38 : decode cX9_request 38 = .ok (.getfield 47, 3) := by decide +kernel
theorem dX9_request_41 : decode cX9_request 41 = .ok (.aload_n 0, 1) := by decide +kernel
theorem dX9_request_42 : decode cX9_request 42 = .ok (.getfield 12, 3) := by decide +kernel
theorem dX9_request_45 : decode cX9_request 45 = .ok (.iload 6, 2) := by decide +kernel
theorem dX9_request_47 : decode cX9_request 47 = .ok (.aload_n 0, 1) := by decide +kernel
theorem dX9_request_48 : decode cX9_request 48 = .ok (.getfield 58, 3) := by decide +kernel
theorem dX9_request_51 : decode cX9_request 51 = .ok (.invokevirtual 113, 3) := by decide +kernel
theorem dX9_request_54 : decode cX9_request 54 = .ok (.aload_n 0, 1) := by decide +kernel
theorem dX9_request_55 : decode cX9_request 55 = .ok (.getfield 19, 3) := by decide +kernel
theorem dX9_request_58 : decode cX9_request 58 = .ok (.invokevirtual 117, 3) := by decide +kernel
theorem dX9_request_61 : decode cX9_request 61 = .ok (.astore 7, 2) := by decide +kernel
theorem dX9_request_63 : decode cX9_request 63 = .ok (.aload_n 0, 1) := by decide +kernel
theorem dX9_request_64 : decode cX9_request 64 = .ok (.getfield 47, 3) := by decide +kernel
theorem dX9_request_67 : decode cX9_request 67 = .ok (.invokevirtual 121, 3) := by decide +kernel
theorem dX9_request_70 : decode cX9_request 70 = .ok (.ifCond .eq 95, 3) := by decide +kernel
theorem dX9_request_73 : decode cX9_request 73 = .ok (.aload_n 0, 1) := by decide +kernel
theorem dX9_request_74 : decode cX9_request 74 = .ok (.getfield 47, 3) := by decide +kernel
theorem dX9_request_77 : decode cX9_request 77 = .ok (.getfield 125, 3) := by decide +kernel
theorem dX9_request_80 : decode cX9_request 80 = .ok (.aload_n 0, 1) := by decide +kernel
theorem dX9_request_81 : decode cX9_request 81 = .ok (.getfield 12, 3) := by decide +kernel
theorem dX9_request_84 : decode cX9_request 84 = .ok (.invokevirtual 87, 3) := by decide +kernel
theorem dX9_request_87 : decode cX9_request 87 = .ok (.if_icmp .ge 78, 3) := by decide +kernel
theorem dX9_request_90 : decode cX9_request 90 = .ok (.aload_n 0, 1) := by decide +kernel
theorem dX9_request_91 : decode cX9_request 91 = .ok (.getfield 12, 3) := by decide +kernel
theorem dX9_request_94 : decode cX9_request 94 = .ok (.aload_n 0, 1) := by decide +kernel
theorem dX9_request_95 : decode cX9_request 95 = .ok (.getfield 47, 3) := by decide +kernel
theorem dX9_request_98 : decode cX9_request 98 = .ok (.getfield 125, 3) := by decide +kernel
theorem dX9_request_101 : decode cX9_request 101 = .ok (.invokevirtual 128, 3) := by decide +kernel
theorem dX9_request_104 : decode cX9_request 104 = .ok (.checkcast 96, 3) := by decide +kernel
theorem dX9_request_107 : decode cX9_request 107 = .ok (.astore 8, 2) := by decide +kernel
theorem dX9_request_109 : decode cX9_request 109 = .ok (.aload 7, 2) := by decide +kernel
theorem dX9_request_111 : decode cX9_request 111 = .ok (.bipush 119, 2) := by decide +kernel
theorem dX9_request_113 : decode cX9_request 113 = .ok (.putfield 132, 3) := by decide +kernel
theorem dX9_request_116 : decode cX9_request 116 = .ok (.aload 7, 2) := by decide +kernel
theorem dX9_request_118 : decode cX9_request 118 = .ok (.aload 8, 2) := by decide +kernel
theorem dX9_request_120 : decode cX9_request 120 = .ok (.getfield 138, 3) := by decide +kernel
theorem dX9_request_123 : decode cX9_request 123 = .ok (.putfield 141, 3) := by decide +kernel
theorem dX9_request_126 : decode cX9_request 126 = .ok (.aload_n 0, 1) := by decide +kernel
theorem dX9_request_127 : decode cX9_request 127 = .ok (.getfield 47, 3) := by decide +kernel
theorem dX9_request_130 : decode cX9_request 130 = .ok (.aload 8, 2) := by decide +kernel
theorem dX9_request_132 : decode cX9_request 132 = .ok (.getfield 142, 3) := by decide +kernel
theorem dX9_request_135 : decode cX9_request 135 = .ok (.iload 6, 2) := by decide +kernel
theorem dX9_request_137 : decode cX9_request 137 = .ok (.invokevirtual 146, 3) := by decide +kernel
theorem dX9_request_140 : decode cX9_request 140 = .ok (.aload 8, 2) := by decide +kernel
theorem dX9_request_142 : decode cX9_request 142 = .ok (.getfield 142, 3) := by decide +kernel
theorem dX9_request_145 : decode cX9_request 145 = .ok (.aload_n 0, 1) := by decide +kernel
theorem dX9_request_146 : decode cX9_request 146 = .ok (.getfield 47, 3) := by decide +kernel
theorem dX9_request_149 : decode cX9_request 149 = .ok (.getfield 150, 3) := by decide +kernel
theorem dX9_request_152 : decode cX9_request 152 = .ok (.invokevirtual 153, 3) := by decide +kernel
theorem dX9_request_155 : decode cX9_request 155 = .ok (.aload_n 0, 1) := by decide +kernel
theorem dX9_request_156 : decode cX9_request 156 = .ok (.aload 8, 2) := by decide +kernel
theorem dX9_request_158 : decode cX9_request 158 = .ok (.invokevirtual 159, 3) := by decide +kernel
theorem dX9_request_161 : decode cX9_request 161 = .ok (.pop, 1) := by decide +kernel
theorem dX9_request_162 : decode cX9_request 162 = .ok (.goto 22, 3) := by decide +kernel
theorem dX9_request_165 : decode cX9_request 165 = .ok (.aload 7, 2) := by decide +kernel
theorem dX9_request_167 : decode cX9_request 167 = .ok (.bipush 120, 2) := by decide +kernel
theorem dX9_request_169 : decode cX9_request 169 = .ok (.putfield 132, 3) := by decide +kernel
theorem dX9_request_172 : decode cX9_request 172 = .ok (.aload 7, 2) := by decide +kernel
theorem dX9_request_174 : decode cX9_request 174 = .ok (.aload_n 0, 1) := by decide +kernel
theorem dX9_request_175 : decode cX9_request 175 = .ok (.getfield 47, 3) := by decide +kernel
theorem dX9_request_178 : decode cX9_request 178 = .ok (.getfield 163, 3) := by decide +kernel
theorem dX9_request_181 : decode cX9_request 181 = .ok (.putfield 166, 3) := by decide +kernel
theorem dX9_request_184 : decode cX9_request 184 = .ok (.iload 6, 2) := by decide +kernel
theorem dX9_request_186 : decode cX9_request 186 = .ok (.ireturn, 1) := by decide +kernel
theorem dX9_quote_0 : decode cX9_quote 0 = .ok (.aload_n 0, 1) := by decide +kernel
theorem dX9_quote_1 : decode cX9_quote 1 = .ok (.iload_n 1, 1) := by decide +kernel
theorem dX9_quote_2 : decode cX9_quote 2 = .ok (.iload_n 2, 1) := by decide +kernel
theorem dX9_quote_3 : decode cX9_quote 3 = .ok (.iload_n 3, 1) := by decide +kernel
theorem dX9_quote_4 : decode cX9_quote 4 = .ok (.iload 4, 2) := by decide +kernel
theorem dX9_quote_6 : decode cX9_quote 6 = .ok (.iload 5, 2) := by decide +kernel
theorem dX9_quote_8 : decode cX9_quote 8 = .ok (.invokevirtual 105, 3) := by decide +kernel
theorem dX9_quote_11 : decode cX9_quote 11 = .ok (.aload_n 0, 1) := by decide +kernel
theorem dX9_quote_12 : decode cX9_quote 12 = .ok (.getfield 47, 3) := by decide +kernel
theorem dX9_quote_15 : decode cX9_quote 15 = .ok (.aload_n 0, 1) := by decide +kernel
theorem dX9_quote_16 : decode cX9_quote 16 = .ok (.getfield 12, 3) := by decide +kernel
theorem dX9_quote_19 : decode cX9_quote 19 = .ok (.aload_n 0, 1) := by decide +kernel
theorem dX9_quote_20 : decode cX9_quote 20 = .ok (.getfield 19, 3) := by decide +kernel
theorem dX9_quote_23 : decode cX9_quote 23 = .ok (.invokevirtual 108, 3) := by decide +kernel
theorem dX9_quote_26 : decode cX9_quote 26 = .ok (.aload_n 0, 1) := by decide +kernel
theorem dX9_quote_27 : decode cX9_quote 27 = .ok (.getfield 58, 3) := by decide +kernel
theorem dX9_quote_30 : decode cX9_quote 30 = .ok (.invokevirtual 167, 3) := by decide +kernel
theorem dX9_quote_33 : decode cX9_quote 33 = .ok (.aload_n 0, 1) := by decide +kernel
theorem dX9_quote_34 : decode cX9_quote 34 = .ok (.invokevirtual 170, 3) := by decide +kernel
theorem dX9_quote_37 : decode cX9_quote 37 = .ok (.aload_n 0, 1) := by decide +kernel
theorem dX9_quote_38 : decode cX9_quote 38 = .ok (.getfield 47, 3) := by decide +kernel
theorem dX9_quote_41 : decode cX9_quote 41 = .ok (.getfield 173, 3) := by decide +kernel
theorem dX9_quote_44 : decode cX9_quote 44 = .ok (.ireturn, 1) := by decide +kernel
theorem dX9_quoteByTrying_0 : decode cX9_quoteByTrying 0 = .ok (.aload_n 0, 1) := by decide +kernel
theorem dX9_quoteByTrying_1 : decode cX9_quoteByTrying 1 = .ok (.iload_n 1, 1) := by decide +kernel
theorem dX9_quoteByTrying_2 : decode cX9_quoteByTrying 2 = .ok (.iload_n 2, 1) := by decide +kernel
theorem dX9_quoteByTrying_3 : decode cX9_quoteByTrying 3 = .ok (.iload_n 3, 1) := by decide +kernel
theorem dX9_quoteByTrying_4 : decode cX9_quoteByTrying 4 = .ok (.iload 4, 2) := by decide +kernel
theorem dX9_quoteByTrying_6 : decode cX9_quoteByTrying 6 = .ok (.iload 5, 2) := by decide +kernel
theorem dX9_quoteByTrying_8 : decode cX9_quoteByTrying 8 = .ok (.invokevirtual 105, 3) := by decide +kernel
theorem dX9_quoteByTrying_11 : decode cX9_quoteByTrying 11 = .ok (.aload_n 0, 1) := by decide +kernel
theorem dX9_quoteByTrying_12 : decode cX9_quoteByTrying 12 = .ok (.getfield 47, 3) := by decide +kernel
theorem dX9_quoteByTrying_15 : decode cX9_quoteByTrying 15 = .ok (.aload_n 0, 1) := by decide +kernel
theorem dX9_quoteByTrying_16 : decode cX9_quoteByTrying 16 = .ok (.getfield 12, 3) := by decide +kernel
theorem dX9_quoteByTrying_19 : decode cX9_quoteByTrying 19 = .ok (.aload_n 0, 1) := by decide +kernel
theorem dX9_quoteByTrying_20 : decode cX9_quoteByTrying 20 = .ok (.getfield 19, 3) := by decide +kernel
theorem dX9_quoteByTrying_23 : decode cX9_quoteByTrying 23 = .ok (.invokevirtual 108, 3) := by decide +kernel
theorem dX9_quoteByTrying_26 : decode cX9_quoteByTrying 26 = .ok (.aload_n 0, 1) := by decide +kernel
theorem dX9_quoteByTrying_27 : decode cX9_quoteByTrying 27 = .ok (.getfield 58, 3) := by decide +kernel
theorem dX9_quoteByTrying_30 : decode cX9_quoteByTrying 30 = .ok (.invokevirtual 113, 3) := by decide +kernel
theorem dX9_quoteByTrying_33 : decode cX9_quoteByTrying 33 = .ok (.aload_n 0, 1) := by decide +kernel
theorem dX9_quoteByTrying_34 : decode cX9_quoteByTrying 34 = .ok (.invokevirtual 170, 3) := by decide +kernel
theorem dX9_quoteByTrying_37 : decode cX9_quoteByTrying 37 = .ok (.aload_n 0, 1) := by decide +kernel
theorem dX9_quoteByTrying_38 : decode cX9_quoteByTrying 38 = .ok (.getfield 47, 3) := by decide +kernel
theorem dX9_quoteByTrying_41 : decode cX9_quoteByTrying 41 = .ok (.getfield 173, 3) := by decide +kernel
theorem dX9_quoteByTrying_44 : decode cX9_quoteByTrying 44 = .ok (.ireturn, 1) := by decide +kernel
theorem dX9_quotedBus_0 : decode cX9_quotedBus 0 = .ok (.aload_n 0, 1) := by decide +kernel
theorem dX9_quotedBus_1 : decode cX9_quotedBus 1 = .ok (.iload_n 1, 1) := by decide +kernel
theorem dX9_quotedBus_2 : decode cX9_quotedBus 2 = .ok (.iload_n 2, 1) := by decide +kernel
theorem dX9_quotedBus_3 : decode cX9_quotedBus 3 = .ok (.iload_n 3, 1) := by decide +kernel
theorem dX9_quotedBus_4 : decode cX9_quotedBus 4 = .ok (.iload 4, 2) := by decide +kernel
theorem dX9_quotedBus_6 : decode cX9_quotedBus 6 = .ok (.iload 5, 2) := by decide +kernel
theorem dX9_quotedBus_8 : decode cX9_quotedBus 8 = .ok (.invokevirtual 105, 3) := by decide +kernel
theorem dX9_quotedBus_11 : decode cX9_quotedBus 11 = .ok (.aload_n 0, 1) := by decide +kernel
theorem dX9_quotedBus_12 : decode cX9_quotedBus 12 = .ok (.getfield 47, 3) := by decide +kernel
theorem dX9_quotedBus_15 : decode cX9_quotedBus 15 = .ok (.aload_n 0, 1) := by decide +kernel
theorem dX9_quotedBus_16 : decode cX9_quotedBus 16 = .ok (.getfield 12, 3) := by decide +kernel
theorem dX9_quotedBus_19 : decode cX9_quotedBus 19 = .ok (.aload_n 0, 1) := by decide +kernel
theorem dX9_quotedBus_20 : decode cX9_quotedBus 20 = .ok (.getfield 19, 3) := by decide +kernel
theorem dX9_quotedBus_23 : decode cX9_quotedBus 23 = .ok (.invokevirtual 108, 3) := by decide +kernel
theorem dX9_quotedBus_26 : decode cX9_quotedBus 26 = .ok (.aload_n 0, 1) := by decide +kernel
theorem dX9_quotedBus_27 : decode cX9_quotedBus 27 = .ok (.getfield 58, 3) := by decide +kernel
theorem dX9_quotedBus_30 : decode cX9_quotedBus 30 = .ok (.invokevirtual 113, 3) := by decide +kernel
theorem dX9_quotedBus_33 : decode cX9_quotedBus 33 = .ok (.aload_n 0, 1) := by decide +kernel
theorem dX9_quotedBus_34 : decode cX9_quotedBus 34 = .ok (.invokevirtual 170, 3) := by decide +kernel
theorem dX9_quotedBus_37 : decode cX9_quotedBus 37 = .ok (.aload_n 0, 1) := by decide +kernel
theorem dX9_quotedBus_38 : decode cX9_quotedBus 38 = .ok (.getfield 47, 3) := by decide +kernel
theorem dX9_quotedBus_41 : decode cX9_quotedBus 41 = .ok (.getfield 125, 3) := by decide +kernel
theorem dX9_quotedBus_44 : decode cX9_quotedBus 44 = .ok (.ireturn, 1) := by decide +kernel
theorem dX9_cancel_0 : decode cX9_cancel 0 = .ok (.aload_n 0, 1) := by decide +kernel
theorem dX9_cancel_1 : decode cX9_cancel 1 = .ok (.iload_n 1, 1) := by decide +kernel
theorem dX9_cancel_2 : decode cX9_cancel 2 = .ok (.invokevirtual 176, 3) := by decide +kernel
theorem dX9_cancel_5 : decode cX9_cancel 5 = .ok (.astore_n 2, 1) := by decide +kernel
theorem dX9_cancel_6 : decode cX9_cancel 6 = .ok (.aload_n 2, 1) := by decide +kernel
theorem dX9_cancel_7 : decode cX9_cancel 7 = .ok (.getfield 132, 3) := by decide +kernel
theorem dX9_cancel_10 : decode cX9_cancel 10 = .ok (.bipush 119, 2) := by decide +kernel
theorem dX9_cancel_12 : decode cX9_cancel 12 = .ok (.if_icmp .eq 13, 3) := by decide +kernel
theorem dX9_cancel_15 : decode cX9_cancel 15 = .ok (.new 91, 3) := by decide +kernel
theorem dX9_cancel_18 : decode cX9_cancel 18 = .ok (.dup, 1) := by decide +kernel
theorem dX9_cancel_19 : decode cX9_cancel 19 = .ok (.ldc 180, 2) := by decide +kernel
theorem dX9_cancel_21 : decode cX9_cancel 21 = .ok (.invokespecial 95, 3) := by decide +kernel
theorem dX9_cancel_24 : decode cX9_cancel 24 = .ok (.athrow, 1) := by decide +kernel
theorem dX9_cancel_25 : decode cX9_cancel 25 = .ok (.aload_n 2, 1) := by decide +kernel
theorem dX9_cancel_26 : decode cX9_cancel 26 = .ok (.bipush 99, 2) := by decide +kernel
theorem dX9_cancel_28 : decode cX9_cancel 28 = .ok (.putfield 132, 3) := by decide +kernel
theorem dX9_cancel_31 : decode cX9_cancel 31 = .ok (.aload_n 0, 1) := by decide +kernel
theorem dX9_cancel_32 : decode cX9_cancel 32 = .ok (.aload_n 2, 1) := by decide +kernel
theorem dX9_cancel_33 : decode cX9_cancel 33 = .ok (.getfield 141, 3) := by decide +kernel
theorem dX9_cancel_36 : decode cX9_cancel 36 = .ok (.invokevirtual 182, 3) := by decide +kernel
theorem dX9_cancel_39 : decode cX9_cancel 39 = .ok (.astore_n 3, 1) := by decide +kernel
theorem dX9_cancel_40 : decode cX9_cancel 40 = .ok (.aload_n 3, 1) := by decide +kernel
theorem dX9_cancel_41 : decode cX9_cancel 41 = .ok (.getfield 142, 3) := by decide +kernel
theorem dX9_cancel_44 : decode cX9_cancel 44 = .ok (.iload_n 1, 1) := by decide +kernel
theorem dX9_cancel_45 : decode cX9_cancel 45 = .ok (.invokestatic 186, 3) := by decide +kernel
theorem dX9_cancel_48 : decode cX9_cancel 48 = .ok (.invokevirtual 190, 3) := by decide +kernel
theorem dX9_cancel_51 : decode cX9_cancel 51 = .ok (.aload_n 3, 1) := by decide +kernel
theorem dX9_cancel_52 : decode cX9_cancel 52 = .ok (.getfield 142, 3) := by decide +kernel
theorem dX9_cancel_55 : decode cX9_cancel 55 = .ok (.iload_n 1, 1) := by decide +kernel
theorem dX9_cancel_56 : decode cX9_cancel 56 = .ok (.invokestatic 194, 3) := by decide +kernel
theorem dX9_cancel_59 : decode cX9_cancel 59 = .ok (.invokevirtual 190, 3) := by decide +kernel
theorem dX9_cancel_62 : decode cX9_cancel 62 = .ok (.aload_n 0, 1) := by decide +kernel
theorem dX9_cancel_63 : decode cX9_cancel 63 = .ok (.aload_n 3, 1) := by decide +kernel
theorem dX9_cancel_64 : decode cX9_cancel 64 = .ok (.invokevirtual 159, 3) := by decide +kernel
theorem dX9_cancel_67 : decode cX9_cancel 67 = .ok (.pop, 1) := by decide +kernel
theorem dX9_cancel_68 : decode cX9_cancel 68 = .ok (.aload_n 3, 1) := by decide +kernel
theorem dX9_cancel_69 : decode cX9_cancel 69 = .ok (.getfield 138, 3) := by decide +kernel
theorem dX9_cancel_72 : decode cX9_cancel 72 = .ok (.ireturn, 1) := by decide +kernel
theorem dX9_status_0 : decode cX9_status 0 = .ok (.aload_n 0, 1) := by decide +kernel
theorem dX9_status_1 : decode cX9_status 1 = .ok (.iload_n 1, 1) := by decide +kernel
theorem dX9_status_2 : decode cX9_status 2 = .ok (.invokevirtual 176, 3) := by decide +kernel
theorem dX9_status_5 : decode cX9_status 5 = .ok (.getfield 132, 3) := by decide +kernel
theorem dX9_status_8 : decode cX9_status 8 = .ok (.ireturn, 1) := by decide +kernel
theorem dX9_reason_0 : decode cX9_reason 0 = .ok (.aload_n 0, 1) := by decide +kernel
theorem dX9_reason_1 : decode cX9_reason 1 = .ok (.iload_n 1, 1) := by decide +kernel
theorem dX9_reason_2 : decode cX9_reason 2 = .ok (.invokevirtual 176, 3) := by decide +kernel
theorem dX9_reason_5 : decode cX9_reason 5 = .ok (.astore_n 2, 1) := by decide +kernel
theorem dX9_reason_6 : decode cX9_reason 6 = .ok (.aload_n 2, 1) := by decide +kernel
theorem dX9_reason_7 : decode cX9_reason 7 = .ok (.getfield 132, 3) := by decide +kernel
theorem dX9_reason_10 : decode cX9_reason 10 = .ok (.bipush 120, 2) := by decide +kernel
theorem dX9_reason_12 : decode cX9_reason 12 = .ok (.if_icmp .eq 13, 3) := by decide +kernel
theorem dX9_reason_15 : decode cX9_reason 15 = .ok (.new 91, 3) := by decide +kernel
theorem dX9_reason_18 : decode cX9_reason 18 = .ok (.dup, 1) := by decide +kernel
theorem dX9_reason_19 : decode cX9_reason 19 = .ok (.ldc 197, 2) := by decide +kernel
theorem dX9_reason_21 : decode cX9_reason 21 = .ok (.invokespecial 95, 3) := by decide +kernel
theorem dX9_reason_24 : decode cX9_reason 24 = .ok (.athrow, 1) := by decide +kernel
theorem dX9_reason_25 : decode cX9_reason 25 = .ok (.aload_n 2, 1) := by decide +kernel
theorem dX9_reason_26 : decode cX9_reason 26 = .ok (.getfield 166, 3) := by decide +kernel
theorem dX9_reason_29 : decode cX9_reason 29 = .ok (.invokestatic 199, 3) := by decide +kernel
theorem dX9_reason_32 : decode cX9_reason 32 = .ok (.ireturn, 1) := by decide +kernel
theorem dX9_busOf_0 : decode cX9_busOf 0 = .ok (.aload_n 0, 1) := by decide +kernel
theorem dX9_busOf_1 : decode cX9_busOf 1 = .ok (.iload_n 1, 1) := by decide +kernel
theorem dX9_busOf_2 : decode cX9_busOf 2 = .ok (.invokevirtual 176, 3) := by decide +kernel
theorem dX9_busOf_5 : decode cX9_busOf 5 = .ok (.astore_n 2, 1) := by decide +kernel
theorem dX9_busOf_6 : decode cX9_busOf 6 = .ok (.aload_n 2, 1) := by decide +kernel
theorem dX9_busOf_7 : decode cX9_busOf 7 = .ok (.getfield 132, 3) := by decide +kernel
theorem dX9_busOf_10 : decode cX9_busOf 10 = .ok (.bipush 120, 2) := by decide +kernel
theorem dX9_busOf_12 : decode cX9_busOf 12 = .ok (.if_icmp .ne 13, 3) := by decide +kernel
theorem dX9_busOf_15 : decode cX9_busOf 15 = .ok (.new 91, 3) := by decide +kernel
theorem dX9_busOf_18 : decode cX9_busOf 18 = .ok (.dup, 1) := by decide +kernel
theorem dX9_busOf_19 : decode cX9_busOf 19 = .ok (.ldc 203, 2) := by decide +kernel
theorem dX9_busOf_21 : decode cX9_busOf 21 = .ok (.invokespecial 95, 3) := by decide +kernel
theorem dX9_busOf_24 : decode cX9_busOf 24 = .ok (.athrow, 1) := by decide +kernel
theorem dX9_busOf_25 : decode cX9_busOf 25 = .ok (.aload_n 2, 1) := by decide +kernel
theorem dX9_busOf_26 : decode cX9_busOf 26 = .ok (.getfield 141, 3) := by decide +kernel
theorem dX9_busOf_29 : decode cX9_busOf 29 = .ok (.ireturn, 1) := by decide +kernel
theorem dX9_latestPickup_0 : decode cX9_latestPickup 0 = .ok (.aload_n 0, 1) := by decide +kernel
theorem dX9_latestPickup_1 : decode cX9_latestPickup 1 = .ok (.iload_n 1, 1) := by decide +kernel
theorem dX9_latestPickup_2 : decode cX9_latestPickup 2 = .ok (.invokevirtual 176, 3) := by decide +kernel
theorem dX9_latestPickup_5 : decode cX9_latestPickup 5 = .ok (.getfield 205, 3) := by decide +kernel
theorem dX9_latestPickup_8 : decode cX9_latestPickup 8 = .ok (.ireturn, 1) := by decide +kernel
theorem dX9_longestRide_0 : decode cX9_longestRide 0 = .ok (.aload_n 0, 1) := by decide +kernel
theorem dX9_longestRide_1 : decode cX9_longestRide 1 = .ok (.iload_n 1, 1) := by decide +kernel
theorem dX9_longestRide_2 : decode cX9_longestRide 2 = .ok (.invokevirtual 176, 3) := by decide +kernel
theorem dX9_longestRide_5 : decode cX9_longestRide 5 = .ok (.getfield 208, 3) := by decide +kernel
theorem dX9_longestRide_8 : decode cX9_longestRide 8 = .ok (.ireturn, 1) := by decide +kernel
theorem dX9_pickupTime_0 : decode cX9_pickupTime 0 = .ok (.aload_n 0, 1) := by decide +kernel
theorem dX9_pickupTime_1 : decode cX9_pickupTime 1 = .ok (.iload_n 1, 1) := by decide +kernel
theorem dX9_pickupTime_2 : decode cX9_pickupTime 2 = .ok (.invokevirtual 211, 3) := by decide +kernel
theorem dX9_pickupTime_5 : decode cX9_pickupTime 5 = .ok (.astore_n 2, 1) := by decide +kernel
theorem dX9_pickupTime_6 : decode cX9_pickupTime 6 = .ok (.aload_n 2, 1) := by decide +kernel
theorem dX9_pickupTime_7 : decode cX9_pickupTime 7 = .ok (.getfield 132, 3) := by decide +kernel
theorem dX9_pickupTime_10 : decode cX9_pickupTime 10 = .ok (.bipush 119, 2) := by decide +kernel
theorem dX9_pickupTime_12 : decode cX9_pickupTime 12 = .ok (.if_icmp .ne 20, 3) := by decide +kernel
theorem dX9_pickupTime_15 : decode cX9_pickupTime 15 = .ok (.aload_n 0, 1) := by decide +kernel
theorem dX9_pickupTime_16 : decode cX9_pickupTime 16 = .ok (.aload_n 0, 1) := by decide +kernel
theorem dX9_pickupTime_17 : decode cX9_pickupTime 17 = .ok (.aload_n 2, 1) := by decide +kernel
theorem dX9_pickupTime_18 : decode cX9_pickupTime 18 = .ok (.getfield 141, 3) := by decide +kernel
theorem dX9_pickupTime_21 : decode cX9_pickupTime 21 = .ok (.invokevirtual 182, 3) := by decide +kernel
theorem dX9_pickupTime_24 : decode cX9_pickupTime 24 = .ok (.iload_n 1, 1) := by decide +kernel
theorem dX9_pickupTime_25 : decode cX9_pickupTime 25 = .ok (.invokestatic 186, 3) := by decide +kernel
