theorem dX10_snap_44 : decode cX10_snap 44 = .ok (.iconst 1, 1) := by decide +kernel
theorem dX10_snap_45 : decode cX10_snap 45 = .ok (.isub, 1) := by decide +kernel
theorem dX10_snap_46 : decode cX10_snap 46 = .ok (.putfield 167, 3) := by decide +kernel
theorem dX10_snap_49 : decode cX10_snap 49 = .ok (.aload_n 0, 1) := by decide +kernel
theorem dX10_snap_50 : decode cX10_snap 50 = .ok (.getfield 74, 3) := by decide +kernel
theorem dX10_snap_53 : decode cX10_snap 53 = .ok (.iconst 0, 1) := by decide +kernel
theorem dX10_snap_54 : decode cX10_snap 54 = .ok (.aload_n 0, 1) := by decide +kernel
theorem dX10_snap_55 : decode cX10_snap 55 = .ok (.getfield 83, 3) := by decide +kernel
theorem dX10_snap_58 : decode cX10_snap 58 = .ok (.bipush 86, 2) := by decide +kernel
theorem dX10_snap_60 : decode cX10_snap 60 = .ok (.aload_n 0, 1) := by decide +kernel
theorem dX10_snap_61 : decode cX10_snap 61 = .ok (.getfield 167, 3) := by decide +kernel
theorem dX10_snap_64 : decode cX10_snap 64 = .ok (.imul, 1) := by decide +kernel
theorem dX10_snap_65 : decode cX10_snap 65 = .ok (.invokestatic 163, 3) := by decide +kernel
theorem dX10_snap_68 : decode cX10_snap 68 = .ok (.aload_n 0, 1) := by decide +kernel
theorem dX10_snap_69 : decode cX10_snap 69 = .ok (.dup, 1) := by decide +kernel
theorem dX10_snap_70 : decode cX10_snap 70 = .ok (.getfield 167, 3) := by decide +kernel
theorem dX10_snap_73 : decode cX10_snap 73 = .ok (.iconst 1, 1) := by decide +kernel
theorem dX10_snap_74 : decode cX10_snap 74 = .ok (.iadd, 1) := by decide +kernel
theorem dX10_snap_75 : decode cX10_snap 75 = .ok (.putfield 167, 3) := by decide +kernel
theorem dX10_snap_78 : decode cX10_snap 78 = .ok (.return_, 1) := by decide +kernel
theorem dX10_stay_0 : decode cX10_stay 0 = .ok (.aload_n 0, 1) := by decide +kernel
theorem dX10_stay_1 : decode cX10_stay 1 = .ok (.getfield 74, 3) := by decide +kernel
theorem dX10_stay_4 : decode cX10_stay 4 = .ok (.iconst 0, 1) := by decide +kernel
theorem dX10_stay_5 : decode cX10_stay 5 = .ok (.aload_n 0, 1) := by decide +kernel
theorem dX10_stay_6 : decode cX10_stay 6 = .ok (.getfield 89, 3) := by decide +kernel
theorem dX10_stay_9 : decode cX10_stay 9 = .ok (.iconst 0, 1) := by decide +kernel
theorem dX10_stay_10 : decode cX10_stay 10 = .ok (.invokestatic 163, 3) := by decide +kernel
theorem dX10_stay_13 : decode cX10_stay 13 = .ok (.aload_n 0, 1) := by decide +kernel
theorem dX10_stay_14 : decode cX10_stay 14 = .ok (.getfield 86, 3) := by decide +kernel
theorem dX10_stay_17 : decode cX10_stay 17 = .ok (.iconst 0, 1) := by decide +kernel
theorem dX10_stay_18 : decode cX10_stay 18 = .ok (.aload_n 0, 1) := by decide +kernel
theorem dX10_stay_19 : decode cX10_stay 19 = .ok (.getfield 74, 3) := by decide +kernel
theorem dX10_stay_22 : decode cX10_stay 22 = .ok (.iconst 0, 1) := by decide +kernel
theorem dX10_stay_23 : decode cX10_stay 23 = .ok (.invokestatic 163, 3) := by decide +kernel
theorem dX10_stay_26 : decode cX10_stay 26 = .ok (.aload_n 0, 1) := by decide +kernel
theorem dX10_stay_27 : decode cX10_stay 27 = .ok (.invokevirtual 250, 3) := by decide +kernel
theorem dX10_stay_30 : decode cX10_stay 30 = .ok (.aload_n 0, 1) := by decide +kernel
theorem dX10_stay_31 : decode cX10_stay 31 = .ok (.getfield 89, 3) := by decide +kernel
theorem dX10_stay_34 : decode cX10_stay 34 = .ok (.iconst 0, 1) := by decide +kernel
theorem dX10_stay_35 : decode cX10_stay 35 = .ok (.aload_n 0, 1) := by decide +kernel
theorem dX10_stay_36 : decode cX10_stay 36 = .ok (.getfield 74, 3) := by decide +kernel
theorem dX10_stay_39 : decode cX10_stay 39 = .ok (.iconst 0, 1) := by decide +kernel
theorem dX10_stay_40 : decode cX10_stay 40 = .ok (.invokestatic 163, 3) := by decide +kernel
theorem dX10_stay_43 : decode cX10_stay 43 = .ok (.return_, 1) := by decide +kernel
theorem dX10_tell_0 : decode cX10_tell 0 = .ok (.aload_n 0, 1) := by decide +kernel
theorem dX10_tell_1 : decode cX10_tell 1 = .ok (.iconst 0, 1) := by decide +kernel
theorem dX10_tell_2 : decode cX10_tell 2 = .ok (.putfield 1, 3) := by decide +kernel
theorem dX10_tell_5 : decode cX10_tell 5 = .ok (.aload_n 0, 1) := by decide +kernel
theorem dX10_tell_6 : decode cX10_tell 6 = .ok (.iload_n 1, 1) := by decide +kernel
theorem dX10_tell_7 : decode cX10_tell 7 = .ok (.iload_n 2, 1) := by decide +kernel
theorem dX10_tell_8 : decode cX10_tell 8 = .ok (.iload_n 3, 1) := by decide +kernel
theorem dX10_tell_9 : decode cX10_tell 9 = .ok (.invokevirtual 253, 3) := by decide +kernel
theorem dX10_tell_12 : decode cX10_tell 12 = .ok (.ifCond .ne 5, 3) := by decide +kernel
theorem dX10_tell_15 : decode cX10_tell 15 = .ok (.iconst (-1), 1) := by decide +kernel
theorem dX10_tell_16 : decode cX10_tell 16 = .ok (.ireturn, 1) := by decide +kernel
theorem dX10_tell_17 : decode cX10_tell 17 = .ok (.aload_n 0, 1) := by decide +kernel
theorem dX10_tell_18 : decode cX10_tell 18 = .ok (.aload_n 0, 1) := by decide +kernel
theorem dX10_tell_19 : decode cX10_tell 19 = .ok (.getfield 74, 3) := by decide +kernel
theorem dX10_tell_22 : decode cX10_tell 22 = .ok (.iload_n 1, 1) := by decide +kernel
theorem dX10_tell_23 : decode cX10_tell 23 = .ok (.iload_n 2, 1) := by decide +kernel
theorem dX10_tell_24 : decode cX10_tell 24 = .ok (.iload_n 3, 1) := by decide +kernel
theorem dX10_tell_25 : decode cX10_tell 25 = .ok (.invokevirtual 146, 3) := by decide +kernel
theorem dX10_tell_28 : decode cX10_tell 28 = .ok (.ifCond .eq 10, 3) := by decide +kernel
theorem dX10_tell_31 : decode cX10_tell 31 = .ok (.aload_n 0, 1) := by decide +kernel
theorem dX10_tell_32 : decode cX10_tell 32 = .ok (.invokevirtual 150, 3) := by decide +kernel
theorem dX10_tell_35 : decode cX10_tell 35 = .ok (.bipush (-2), 2) := by decide +kernel
theorem dX10_tell_37 : decode cX10_tell 37 = .ok (.ireturn, 1) := by decide +kernel
theorem dX10_tell_38 : decode cX10_tell 38 = .ok (.aload_n 0, 1) := by decide +kernel
theorem dX10_tell_39 : decode cX10_tell 39 = .ok (.invokevirtual 250, 3) := by decide +kernel
theorem dX10_tell_42 : decode cX10_tell 42 = .ok (.aload_n 0, 1) := by decide +kernel
theorem dX10_tell_43 : decode cX10_tell 43 = .ok (.getfield 74, 3) := by decide +kernel
theorem dX10_tell_46 : decode cX10_tell 46 = .ok (.iload_n 1, 1) := by decide +kernel
theorem dX10_tell_47 : decode cX10_tell 47 = .ok (.iload_n 2, 1) := by decide +kernel
theorem dX10_tell_48 : decode cX10_tell 48 = .ok (.iload_n 3, 1) := by decide +kernel
theorem dX10_tell_49 : decode cX10_tell 49 = .ok (.invokestatic 153, 3) := by decide +kernel
theorem dX10_tell_52 : decode cX10_tell 52 = .ok (.aload_n 0, 1) := by decide +kernel
theorem dX10_tell_53 : decode cX10_tell 53 = .ok (.invokevirtual 237, 3) := by decide +kernel
theorem dX10_tell_56 : decode cX10_tell 56 = .ok (.iconst 1, 1) := by decide +kernel
theorem dX10_tell_57 : decode cX10_tell 57 = .ok (.isub, 1) := by decide +kernel
theorem dX10_tell_58 : decode cX10_tell 58 = .ok (.ireturn, 1) := by decide +kernel
theorem dX10_test_0 : decode cX10_test 0 = .ok (.aload_n 0, 1) := by decide +kernel
theorem dX10_test_1 : decode cX10_test 1 = .ok (.iconst 0, 1) := by decide +kernel
theorem dX10_test_2 : decode cX10_test 2 = .ok (.putfield 1, 3) := by decide +kernel
theorem dX10_test_5 : decode cX10_test 5 = .ok (.aload_n 0, 1) := by decide +kernel
theorem dX10_test_6 : decode cX10_test 6 = .ok (.iload_n 1, 1) := by decide +kernel
theorem dX10_test_7 : decode cX10_test 7 = .ok (.iload_n 2, 1) := by decide +kernel
theorem dX10_test_8 : decode cX10_test 8 = .ok (.iload_n 3, 1) := by decide +kernel
theorem dX10_test_9 : decode cX10_test 9 = .ok (.invokevirtual 253, 3) := by decide +kernel
theorem dX10_test_12 : decode cX10_test 12 = .ok (.ifCond .ne 5, 3) := by decide +kernel
theorem dX10_test_15 : decode cX10_test 15 = .ok (.iconst (-1), 1) := by decide +kernel
theorem dX10_test_16 : decode cX10_test 16 = .ok (.ireturn, 1) := by decide +kernel
theorem dX10_test_17 : decode cX10_test 17 = .ok (.aload_n 0, 1) := by decide +kernel
theorem dX10_test_18 : decode cX10_test 18 = .ok (.aload_n 0, 1) := by decide +kernel
theorem dX10_test_19 : decode cX10_test 19 = .ok (.getfield 74, 3) := by decide +kernel
theorem dX10_test_22 : decode cX10_test 22 = .ok (.iload_n 1, 1) := by decide +kernel
theorem dX10_test_23 : decode cX10_test 23 = .ok (.iload_n 2, 1) := by decide +kernel
theorem dX10_test_24 : decode cX10_test 24 = .ok (.iload_n 3, 1) := by decide +kernel
theorem dX10_test_25 : decode cX10_test 25 = .ok (.invokevirtual 146, 3) := by decide +kernel
theorem dX10_test_28 : decode cX10_test 28 = .ok (.ifCond .ne 5, 3) := by decide +kernel
theorem dX10_test_31 : decode cX10_test 31 = .ok (.iconst 0, 1) := by decide +kernel
theorem dX10_test_32 : decode cX10_test 32 = .ok (.ireturn, 1) := by decide +kernel
theorem dX10_test_33 : decode cX10_test 33 = .ok (.aload_n 0, 1) := by decide +kernel
theorem dX10_test_34 : decode cX10_test 34 = .ok (.invokevirtual 150, 3) := by decide +kernel
theorem dX10_test_37 : decode cX10_test 37 = .ok (.aload_n 0, 1) := by decide +kernel
theorem dX10_test_38 : decode cX10_test 38 = .ok (.getfield 196, 3) := by decide +kernel
theorem dX10_test_41 : decode cX10_test 41 = .ok (.iconst 1, 1) := by decide +kernel
theorem dX10_test_42 : decode cX10_test 42 = .ok (.iadd, 1) := by decide +kernel
theorem dX10_test_43 : decode cX10_test 43 = .ok (.ireturn, 1) := by decide +kernel
theorem dX10_forget_0 : decode cX10_forget 0 = .ok (.aload_n 0, 1) := by decide +kernel
theorem dX10_forget_1 : decode cX10_forget 1 = .ok (.iconst 0, 1) := by decide +kernel
theorem dX10_forget_2 : decode cX10_forget 2 = .ok (.putfield 1, 3) := by decide +kernel
theorem dX10_forget_5 : decode cX10_forget 5 = .ok (.iload_n 1, 1) := by decide +kernel
theorem dX10_forget_6 : decode cX10_forget 6 = .ok (.iconst 0, 1) := by decide +kernel
theorem dX10_forget_7 : decode cX10_forget 7 = .ok (.aload_n 0, 1) := by decide +kernel
theorem dX10_forget_8 : decode cX10_forget 8 = .ok (.invokevirtual 237, 3) := by decide +kernel
theorem dX10_forget_11 : decode cX10_forget 11 = .ok (.iconst 1, 1) := by decide +kernel
theorem dX10_forget_12 : decode cX10_forget 12 = .ok (.isub, 1) := by decide +kernel
theorem dX10_forget_13 : decode cX10_forget 13 = .ok (.invokestatic 224, 3) := by decide +kernel
theorem dX10_forget_16 : decode cX10_forget 16 = .ok (.ifCond .ne 5, 3) := by decide +kernel
theorem dX10_forget_19 : decode cX10_forget 19 = .ok (.iconst (-1), 1) := by decide +kernel
theorem dX10_forget_20 : decode cX10_forget 20 = .ok (.ireturn, 1) := by decide +kernel
theorem dX10_forget_21 : decode cX10_forget 21 = .ok (.aload_n 0, 1) := by decide +kernel
theorem dX10_forget_22 : decode cX10_forget 22 = .ok (.invokevirtual 250, 3) := by decide +kernel
theorem dX10_forget_25 : decode cX10_forget 25 = .ok (.aload_n 0, 1) := by decide +kernel
theorem dX10_forget_26 : decode cX10_forget 26 = .ok (.getfield 74, 3) := by decide +kernel
theorem dX10_forget_29 : decode cX10_forget 29 = .ok (.iload_n 1, 1) := by decide +kernel
theorem dX10_forget_30 : decode cX10_forget 30 = .ok (.invokestatic 256, 3) := by decide +kernel
theorem dX10_forget_33 : decode cX10_forget 33 = .ok (.aload_n 0, 1) := by decide +kernel
theorem dX10_forget_34 : decode cX10_forget 34 = .ok (.invokevirtual 237, 3) := by decide +kernel
theorem dX10_forget_37 : decode cX10_forget 37 = .ok (.ireturn, 1) := by decide +kernel
theorem dX10_isLength_0 : decode cX10_isLength 0 = .ok (.iload_n 1, 1) := by decide +kernel
theorem dX10_isLength_1 : decode cX10_isLength 1 = .ok (.aload_n 0, 1) := by decide +kernel
theorem dX10_isLength_2 : decode cX10_isLength 2 = .ok (.aload_n 0, 1) := by decide +kernel
theorem dX10_isLength_3 : decode cX10_isLength 3 = .ok (.getfield 74, 3) := by decide +kernel
theorem dX10_isLength_6 : decode cX10_isLength 6 = .ok (.invokevirtual 243, 3) := by decide +kernel
theorem dX10_isLength_9 : decode cX10_isLength 9 = .ok (.bipush 60, 2) := by decide +kernel
theorem dX10_isLength_11 : decode cX10_isLength 11 = .ok (.invokestatic 224, 3) := by decide +kernel
theorem dX10_isLength_14 : decode cX10_isLength 14 = .ok (.ireturn, 1) := by decide +kernel
theorem dX10_laysBegins_0 : decode cX10_laysBegins 0 = .ok (.aload_n 0, 1) := by decide +kernel
theorem dX10_laysBegins_1 : decode cX10_laysBegins 1 = .ok (.aload_n 0, 1) := by decide +kernel
theorem dX10_laysBegins_2 : decode cX10_laysBegins 2 = .ok (.getfield 74, 3) := by decide +kernel
theorem dX10_laysBegins_5 : decode cX10_laysBegins 5 = .ok (.iload_n 1, 1) := by decide +kernel
theorem dX10_laysBegins_6 : decode cX10_laysBegins 6 = .ok (.invokevirtual 179, 3) := by decide +kernel
theorem dX10_laysBegins_9 : decode cX10_laysBegins 9 = .ok (.iconst 0, 1) := by decide +kernel
theorem dX10_laysBegins_10 : decode cX10_laysBegins 10 = .ok (.istore_n 2, 1) := by decide +kernel
theorem dX10_laysBegins_11 : decode cX10_laysBegins 11 = .ok (.iload_n 2, 1) := by decide +kernel
theorem dX10_laysBegins_12 : decode cX10_laysBegins 12 = .ok (.aload_n 0, 1) := by decide +kernel
theorem dX10_laysBegins_13 : decode cX10_laysBegins 13 = .ok (.invokevirtual 228, 3) := by decide +kernel
theorem dX10_laysBegins_16 : decode cX10_laysBegins 16 = .ok (.if_icmp .ge 69, 3) := by decide +kernel
theorem dX10_laysBegins_19 : decode cX10_laysBegins 19 = .ok (.aload_n 0, 1) := by decide +kernel
theorem dX10_laysBegins_20 : decode cX10_laysBegins 20 = .ok (.getfield 118, 3) := by decide +kernel
theorem dX10_laysBegins_23 : decode cX10_laysBegins 23 = .ok (.iload_n 2, 1) := by decide +kernel
theorem dX10_laysBegins_24 : decode cX10_laysBegins 24 = .ok (.iconst 0, 1) := by decide +kernel
theorem dX10_laysBegins_25 : decode cX10_laysBegins 25 = .ok (.iastore, 1) := by decide +kernel
theorem dX10_laysBegins_26 : decode cX10_laysBegins 26 = .ok (.iconst 0, 1) := by decide +kernel
theorem dX10_laysBegins_27 : decode cX10_laysBegins 27 = .ok (.istore_n 3, 1) := by decide +kernel
theorem dX10_laysBegins_28 : decode cX10_laysBegins 28 = .ok (.iload_n 3, 1) := by decide +kernel
theorem dX10_laysBegins_29 : decode cX10_laysBegins 29 = .ok (.aload_n 0, 1) := by decide +kernel
theorem dX10_laysBegins_30 : decode cX10_laysBegins 30 = .ok (.invokevirtual 228, 3) := by decide +kernel
theorem dX10_laysBegins_33 : decode cX10_laysBegins 33 = .ok (.if_icmp .ge 46, 3) := by decide +kernel
theorem dX10_laysBegins_36 : decode cX10_laysBegins 36 = .ok (.aload_n 0, 1) := by decide +kernel
theorem dX10_laysBegins_37 : decode cX10_laysBegins 37 = .ok (.getfield 103, 3) := by decide +kernel
theorem dX10_laysBegins_40 : decode cX10_laysBegins 40 = .ok (.bipush 8, 2) := by decide +kernel
theorem dX10_laysBegins_42 : decode cX10_laysBegins 42 = .ok (.iload_n 3, 1) := by decide +kernel
theorem dX10_laysBegins_43 : decode cX10_laysBegins 43 = .ok (.imul, 1) := by decide +kernel
theorem dX10_laysBegins_44 : decode cX10_laysBegins 44 = .ok (.iload_n 2, 1) := by decide +kernel
theorem dX10_laysBegins_45 : decode cX10_laysBegins 45 = .ok (.iadd, 1) := by decide +kernel
theorem dX10_laysBegins_46 : decode cX10_laysBegins 46 = .ok (.iaload, 1) := by decide +kernel
theorem dX10_laysBegins_47 : decode cX10_laysBegins 47 = .ok (.aload_n 0, 1) := by decide +kernel
theorem dX10_laysBegins_48 : decode cX10_laysBegins 48 = .ok (.getfield 118, 3) := by decide +kernel
theorem dX10_laysBegins_51 : decode cX10_laysBegins 51 = .ok (.iload_n 2, 1) := by decide +kernel
theorem dX10_laysBegins_52 : decode cX10_laysBegins 52 = .ok (.iaload, 1) := by decide +kernel
theorem dX10_laysBegins_53 : decode cX10_laysBegins 53 = .ok (.if_icmp .le 20, 3) := by decide +kernel
theorem dX10_laysBegins_56 : decode cX10_laysBegins 56 = .ok (.aload_n 0, 1) := by decide +kernel
theorem dX10_laysBegins_57 : decode cX10_laysBegins 57 = .ok (.getfield 118, 3) := by decide +kernel
theorem dX10_laysBegins_60 : decode cX10_laysBegins 60 = .ok (.iload_n 2, 1) := by decide +kernel
theorem dX10_laysBegins_61 : decode cX10_laysBegins 61 = .ok (.aload_n 0, 1) := by decide +kernel
theorem dX10_laysBegins_62 : decode cX10_laysBegins 62 = .ok (.getfield 103, 3) := by decide +kernel
theorem dX10_laysBegins_65 : decode cX10_laysBegins 65 = .ok (.bipush 8, 2) := by decide +kernel
theorem dX10_laysBegins_67 : decode cX10_laysBegins 67 = .ok (.iload_n 3, 1) := by decide +kernel
theorem dX10_laysBegins_68 : decode cX10_laysBegins 68 = .ok (.imul, 1) := by decide +kernel
theorem dX10_laysBegins_69 : decode cX10_laysBegins 69 = .ok (.iload_n 2, 1) := by decide +kernel
theorem dX10_laysBegins_70 : decode cX10_laysBegins 70 = .ok (.iadd, 1) := by decide +kernel
theorem dX10_laysBegins_71 : decode cX10_laysBegins 71 = .ok (.iaload, 1) := by decide +kernel
theorem dX10_laysBegins_72 : decode cX10_laysBegins 72 = .ok (.iastore, 1) := by decide +kernel
theorem dX10_laysBegins_73 : decode cX10_laysBegins 73 = .ok (.iinc 3 1, 3) := by decide +kernel
theorem dX10_laysBegins_76 : decode cX10_laysBegins 76 = .ok (.goto (-48), 3) := by decide +kernel
theorem dX10_laysBegins_79 : decode cX10_laysBegins 79 = .ok (.iinc 2 1, 3) := by decide +kernel
theorem dX10_laysBegins_82 : decode cX10_laysBegins 82 = .ok (.goto (-71), 3) := by decide +kernel
theorem dX10_laysBegins_85 : decode cX10_laysBegins 85 = .ok (.return_, 1) := by decide +kernel
theorem dX10_begin_0 : decode cX10_begin 0 = .ok (.aload_n 0, 1) := by decide +kernel
theorem dX10_begin_1 : decode cX10_begin 1 = .ok (.iconst 0, 1) := by decide +kernel
theorem dX10_begin_2 : decode cX10_begin 2 = .ok (.putfield 1, 3) := by decide +kernel
theorem dX10_begin_5 : decode cX10_begin 5 = .ok (.aload_n 0, 1) := by decide +kernel
theorem dX10_begin_6 : decode cX10_begin 6 = .ok (.iload_n 1, 1) := by decide +kernel
theorem dX10_begin_7 : decode cX10_begin 7 = .ok (.invokevirtual 231, 3) := by decide +kernel
theorem dX10_begin_10 : decode cX10_begin 10 = .ok (.ifCond .eq 11, 3) := by decide +kernel
theorem dX10_begin_13 : decode cX10_begin 13 = .ok (.aload_n 0, 1) := by decide +kernel
theorem dX10_begin_14 : decode cX10_begin 14 = .ok (.iload_n 2, 1) := by decide +kernel
theorem dX10_begin_15 : decode cX10_begin 15 = .ok (.invokevirtual 259, 3) := by decide +kernel
theorem dX10_begin_18 : decode cX10_begin 18 = .ok (.ifCond .ne 5, 3) := by decide +kernel
theorem dX10_begin_21 : decode cX10_begin 21 = .ok (.iconst (-1), 1) := by decide +kernel
theorem dX10_begin_22 : decode cX10_begin 22 = .ok (.ireturn, 1) := by decide +kernel
theorem dX10_begin_23 : decode cX10_begin 23 = .ok (.aload_n 0, 1) := by decide +kernel
theorem dX10_begin_24 : decode cX10_begin 24 = .ok (.iload_n 2, 1) := by decide +kernel
theorem dX10_begin_25 : decode cX10_begin 25 = .ok (.invokevirtual 262, 3) := by decide +kernel
theorem dX10_begin_28 : decode cX10_begin 28 = .ok (.aload_n 0, 1) := by decide +kernel
theorem dX10_begin_29 : decode cX10_begin 29 = .ok (.getfield 118, 3) := by decide +kernel
theorem dX10_begin_32 : decode cX10_begin 32 = .ok (.iload_n 1, 1) := by decide +kernel
theorem dX10_begin_33 : decode cX10_begin 33 = .ok (.iaload, 1) := by decide +kernel
theorem dX10_begin_34 : decode cX10_begin 34 = .ok (.ireturn, 1) := by decide +kernel
theorem dX10_gap_0 : decode cX10_gap 0 = .ok (.aload_n 0, 1) := by decide +kernel
theorem dX10_gap_1 : decode cX10_gap 1 = .ok (.iconst 0, 1) := by decide +kernel
theorem dX10_gap_2 : decode cX10_gap 2 = .ok (.putfield 1, 3) := by decide +kernel
theorem dX10_gap_5 : decode cX10_gap 5 = .ok (.aload_n 0, 1) := by decide +kernel
theorem dX10_gap_6 : decode cX10_gap 6 = .ok (.iload_n 1, 1) := by decide +kernel
theorem dX10_gap_7 : decode cX10_gap 7 = .ok (.invokevirtual 231, 3) := by decide +kernel
theorem dX10_gap_10 : decode cX10_gap 10 = .ok (.ifCond .eq 29, 3) := by decide +kernel
theorem dX10_gap_13 : decode cX10_gap 13 = .ok (.aload_n 0, 1) := by decide +kernel
theorem dX10_gap_14 : decode cX10_gap 14 = .ok (.iload_n 2, 1) := by decide +kernel
theorem dX10_gap_15 : decode cX10_gap 15 = .ok (.invokevirtual 231, 3) := by decide +kernel
theorem dX10_gap_18 : decode cX10_gap 18 = .ok (.ifCond .eq 21, 3) := by decide +kernel
theorem dX10_gap_21 : decode cX10_gap 21 = .ok (.aload_n 0, 1) := by decide +kernel
theorem dX10_gap_22 : decode cX10_gap 22 = .ok (.iload_n 3, 1) := by decide +kernel
theorem dX10_gap_23 : decode cX10_gap 23 = .ok (.invokevirtual 259, 3) := by decide +kernel
theorem dX10_gap_26 : decode cX10_gap 26 = .ok (.ifCond .eq 13, 3) := by decide +kernel
theorem dX10_gap_29 : decode cX10_gap 29 = .ok (.iload 4, 2) := by decide +kernel
theorem dX10_gap_31 : decode cX10_gap 31 = .ok (.iconst 0, 1) := by decide +kernel
theorem dX10_gap_32 : decode cX10_gap 32 = .ok (.iconst 1, 1) := by decide +kernel
theorem dX10_gap_33 : decode cX10_gap 33 = .ok (.invokestatic 224, 3) := by decide +kernel
theorem dX10_gap_36 : decode cX10_gap 36 = .ok (.ifCond .ne 7, 3) := by decide +kernel
theorem dX10_gap_39 : decode cX10_gap 39 = .ok (.ldc_w 265, 3) := by decide +kernel
theorem dX10_gap_42 : decode cX10_gap 42 = .ok (.ireturn, 1) := by decide +kernel
theorem dX10_gap_43 : decode cX10_gap 43 = .ok (.aload_n 0, 1) := by decide +kernel
theorem dX10_gap_44 : decode cX10_gap 44 = .ok (.aload_n 0, 1) := by decide +kernel
theorem dX10_gap_45 : decode cX10_gap 45 = .ok (.getfield 74, 3) := by decide +kernel
theorem dX10_gap_48 : decode cX10_gap 48 = .ok (.iload_n 3, 1) := by decide +kernel
theorem dX10_gap_49 : decode cX10_gap 49 = .ok (.invokevirtual 179, 3) := by decide +kernel
theorem dX10_gap_52 : decode cX10_gap 52 = .ok (.iload 4, 2) := by decide +kernel
theorem dX10_gap_54 : decode cX10_gap 54 = .ok (.ifCond .ne 17, 3) := by decide +kernel
theorem dX10_gap_57 : decode cX10_gap 57 = .ok (.aload_n 0, 1) := by decide +kernel
theorem dX10_gap_58 : decode cX10_gap 58 = .ok (.getfield 103, 3) := by decide +kernel
theorem dX10_gap_61 : decode cX10_gap 61 = .ok (.bipush 8, 2) := by decide +kernel
theorem dX10_gap_63 : decode cX10_gap 63 = .ok (.iload_n 1, 1) := by decide +kernel
theorem dX10_gap_64 : decode cX10_gap 64 = .ok (.imul, 1) := by decide +kernel
theorem dX10_gap_65 : decode cX10_gap 65 = .ok (.iload_n 2, 1) := by decide +kernel
theorem dX10_gap_66 : decode cX10_gap 66 = .ok (.iadd, 1) := by decide +kernel
theorem dX10_gap_67 : decode cX10_gap 67 = .ok (.iaload, 1) := by decide +kernel
theorem dX10_gap_68 : decode cX10_gap 68 = .ok (.goto 14, 3) := by decide +kernel
theorem dX10_gap_71 : decode cX10_gap 71 = .ok (.aload_n 0, 1) := by decide +kernel
theorem dX10_gap_72 : decode cX10_gap 72 = .ok (.getfield 103, 3) := by decide +kernel
theorem dX10_gap_75 : decode cX10_gap 75 = .ok (.bipush 8, 2) := by decide +kernel
theorem dX10_gap_77 : decode cX10_gap 77 = .ok (.iload_n 2, 1) := by decide +kernel
theorem dX10_gap_78 : decode cX10_gap 78 = .ok (.imul, 1) := by decide +kernel
theorem dX10_gap_79 : decode cX10_gap 79 = .ok (.iload_n 1, 1) := by decide +kernel
theorem dX10_gap_80 : decode cX10_gap 80 = .ok (.iadd, 1) := by decide +kernel
theorem dX10_gap_81 : decode cX10_gap 81 = .ok (.iaload, 1) := by decide +kernel
theorem dX10_gap_82 : decode cX10_gap 82 = .ok (.istore 5, 2) := by decide +kernel
theorem dX10_gap_84 : decode cX10_gap 84 = .ok (.iload 5, 2) := by decide +kernel
theorem dX10_gap_86 : decode cX10_gap 86 = .ok (.ldc 170, 2) := by decide +kernel
theorem dX10_gap_88 : decode cX10_gap 88 = .ok (.if_icmp .ne 9, 3) := by decide +kernel
theorem dX10_gap_91 : decode cX10_gap 91 = .ok (.ldc_w 265, 3) := by decide +kernel
theorem dX10_gap_94 : decode cX10_gap 94 = .ok (.goto 16, 3) := by decide +kernel
theorem dX10_gap_97 : decode cX10_gap 97 = .ok (.iload 4, 2) := by decide +kernel
theorem dX10_gap_99 : decode cX10_gap 99 = .ok (.ifCond .ne 8, 3) := by decide +kernel
theorem dX10_gap_102 : decode cX10_gap 102 = .ok (.iload 5, 2) := by decide +kernel
theorem dX10_gap_104 : decode cX10_gap 104 = .ok (.goto 6, 3) := by decide +kernel
theorem dX10_gap_107 : decode cX10_gap 107 = .ok (.iload 5, 2) := by decide +kernel
theorem dX10_gap_109 : decode cX10_gap 109 = .ok (.ineg, 1) := by decide +kernel
theorem dX10_gap_110 : decode cX10_gap 110 = .ok (.ireturn, 1) := by decide +kernel
theorem dX10_tight_0 : decode cX10_tight 0 = .ok (.aload_n 0, 1) := by decide +kernel
theorem dX10_tight_1 : decode cX10_tight 1 = .ok (.iconst 0, 1) := by decide +kernel
theorem dX10_tight_2 : decode cX10_tight 2 = .ok (.putfield 1, 3) := by decide +kernel
theorem dX10_tight_5 : decode cX10_tight 5 = .ok (.aload_n 0, 1) := by decide +kernel
theorem dX10_tight_6 : decode cX10_tight 6 = .ok (.iload_n 1, 1) := by decide +kernel
theorem dX10_tight_7 : decode cX10_tight 7 = .ok (.invokevirtual 259, 3) := by decide +kernel
theorem dX10_tight_10 : decode cX10_tight 10 = .ok (.ifCond .ne 5, 3) := by decide +kernel
theorem dX10_tight_13 : decode cX10_tight 13 = .ok (.iconst (-1), 1) := by decide +kernel
theorem dX10_tight_14 : decode cX10_tight 14 = .ok (.ireturn, 1) := by decide +kernel
theorem dX10_tight_15 : decode cX10_tight 15 = .ok (.aload_n 0, 1) := by decide +kernel
theorem dX10_tight_16 : decode cX10_tight 16 = .ok (.iload_n 1, 1) := by decide +kernel
theorem dX10_tight_17 : decode cX10_tight 17 = .ok (.invokevirtual 262, 3) := by decide +kernel
theorem dX10_tight_20 : decode cX10_tight 20 = .ok (.iconst 0, 1) := by decide +kernel
theorem dX10_tight_21 : decode cX10_tight 21 = .ok (.istore_n 2, 1) := by decide +kernel
theorem dX10_tight_22 : decode cX10_tight 22 = .ok (.iconst 0, 1) := by decide +kernel
theorem dX10_tight_23 : decode cX10_tight 23 = .ok (.istore_n 3, 1) := by decide +kernel
theorem dX10_tight_24 : decode cX10_tight 24 = .ok (.iload_n 3, 1) := by decide +kernel
theorem dX10_tight_25 : decode cX10_tight 25 = .ok (.aload_n 0, 1) := by decide +kernel
theorem dX10_tight_26 : decode cX10_tight 26 = .ok (.invokevirtual 237, 3) := by decide +kernel
theorem dX10_tight_29 : decode cX10_tight 29 = .ok (.if_icmp .ge 99, 3) := by decide +kernel
theorem dX10_tight_32 : decode cX10_tight 32 = .ok (.aload_n 0, 1) := by decide +kernel
theorem dX10_tight_33 : decode cX10_tight 33 = .ok (.getfield 118, 3) := by decide +kernel
theorem dX10_tight_36 : decode cX10_tight 36 = .ok (.aload_n 0, 1) := by decide +kernel
theorem dX10_tight_37 : decode cX10_tight 37 = .ok (.getfield 74, 3) := by decide +kernel
theorem dX10_tight_40 : decode cX10_tight 40 = .ok (.bipush 58, 2) := by decide +kernel
theorem dX10_tight_42 : decode cX10_tight 42 = .ok (.iload_n 3, 1) := by decide +kernel
theorem dX10_tight_43 : decode cX10_tight 43 = .ok (.iadd, 1) := by decide +kernel
theorem dX10_tight_44 : decode cX10_tight 44 = .ok (.iaload, 1) := by decide +kernel
theorem dX10_tight_45 : decode cX10_tight 45 = .ok (.iaload, 1) := by decide +kernel
theorem dX10_tight_46 : decode cX10_tight 46 = .ok (.aload_n 0, 1) := by decide +kernel
theorem dX10_tight_47 : decode cX10_tight 47 = .ok (.getfield 118, 3) := by decide +kernel
theorem dX10_tight_50 : decode cX10_tight 50 = .ok (.aload_n 0, 1) := by decide +kernel
theorem dX10_tight_51 : decode cX10_tight 51 = .ok (.getfield 74, 3) := by decide +kernel
theorem dX10_tight_54 : decode cX10_tight 54 = .ok (.bipush 30, 2) := by decide +kernel
theorem dX10_tight_56 : decode cX10_tight 56 = .ok (.iload_n 3, 1) := by decide +kernel
theorem dX10_tight_57 : decode cX10_tight 57 = .ok (.iadd, 1) := by decide +kernel
theorem dX10_tight_58 : decode cX10_tight 58 = .ok (.iaload, 1) := by decide +kernel
theorem dX10_tight_59 : decode cX10_tight 59 = .ok (.iaload, 1) := by decide +kernel
theorem dX10_tight_60 : decode cX10_tight 60 = .ok (.isub, 1) := by decide +kernel
theorem dX10_tight_61 : decode cX10_tight 61 = .ok (.istore 4, 2) := by decide +kernel
theorem dX10_tight_63 : decode cX10_tight 63 = .ok (.aload_n 0, 1) := by decide +kernel
theorem dX10_tight_64 : decode cX10_tight 64 = .ok (.getfield 74, 3) := by decide +kernel
theorem dX10_tight_67 : decode cX10_tight 67 = .ok (.iconst 2, 1) := by decide +kernel
theorem dX10_tight_68 : decode cX10_tight 68 = .ok (.iload_n 3, 1) := by decide +kernel
theorem dX10_tight_69 : decode cX10_tight 69 = .ok (.iadd, 1) := by decide +kernel
theorem dX10_tight_70 : decode cX10_tight 70 = .ok (.iaload, 1) := by decide +kernel
theorem dX10_tight_71 : decode cX10_tight 71 = .ok (.ifCond .ne 17, 3) := by decide +kernel
theorem dX10_tight_74 : decode cX10_tight 74 = .ok (.iload 4, 2) := by decide +kernel
theorem dX10_tight_76 : decode cX10_tight 76 = .ok (.iload_n 1, 1) := by decide +kernel
theorem dX10_tight_77 : decode cX10_tight 77 = .ok (.if_icmp .ne 7, 3) := by decide +kernel
theorem dX10_tight_80 : decode cX10_tight 80 = .ok (.iconst 1, 1) := by decide +kernel
theorem dX10_tight_81 : decode cX10_tight 81 = .ok (.goto 28, 3) := by decide +kernel
theorem dX10_tight_84 : decode cX10_tight 84 = .ok (.iconst 0, 1) := by decide +kernel
theorem dX10_tight_85 : decode cX10_tight 85 = .ok (.goto 24, 3) := by decide +kernel
theorem dX10_tight_88 : decode cX10_tight 88 = .ok (.iload 4, 2) := by decide +kernel
theorem dX10_tight_90 : decode cX10_tight 90 = .ok (.iload_n 1, 1) := by decide +kernel
theorem dX10_tight_91 : decode cX10_tight 91 = .ok (.iconst 1, 1) := by decide +kernel
theorem dX10_tight_92 : decode cX10_tight 92 = .ok (.isub, 1) := by decide +kernel
theorem dX10_tight_93 : decode cX10_tight 93 = .ok (.if_icmp .eq 11, 3) := by decide +kernel
theorem dX10_tight_96 : decode cX10_tight 96 = .ok (.iload 4, 2) := by decide +kernel
theorem dX10_tight_98 : decode cX10_tight 98 = .ok (.iconst 1, 1) := by decide +kernel
theorem dX10_tight_99 : decode cX10_tight 99 = .ok (.iload_n 1, 1) := by decide +kernel
theorem dX10_tight_100 : decode cX10_tight 100 = .ok (.isub, 1) := by decide +kernel
theorem dX10_tight_101 : decode cX10_tight 101 = .ok (.if_icmp .ne 7, 3) := by decide +kernel
theorem dX10_tight_104 : decode cX10_tight 104 = .ok (.iconst 1, 1) := by decide +kernel
theorem dX10_tight_105 : decode cX10_tight 105 = .ok (.goto 4, 3) := by decide +kernel
theorem dX10_tight_108 : decode cX10_tight 108 = .ok (.iconst 0, 1) := by decide +kernel
theorem dX10_tight_109 : decode cX10_tight 109 = .ok (.istore 5, 2) := by decide +kernel
theorem dX10_tight_111 : decode cX10_tight 111 = .ok (.iload 5, 2) := by decide +kernel
theorem dX10_tight_113 : decode cX10_tight 113 = .ok (.ifCond .eq 9, 3) := by decide +kernel
theorem dX10_tight_116 : decode cX10_tight 116 = .ok (.iload_n 2, 1) := by decide +kernel
theorem dX10_tight_117 : decode cX10_tight 117 = .ok (.iconst 1, 1) := by decide +kernel
theorem dX10_tight_118 : decode cX10_tight 118 = .ok (.iload_n 3, 1) := by decide +kernel
theorem dX10_tight_119 : decode cX10_tight 119 = .ok (.ishl, 1) := by decide +kernel
theorem dX10_tight_120 : decode cX10_tight 120 = .ok (.ior, 1) := by decide +kernel
theorem dX10_tight_121 : decode cX10_tight 121 = .ok (.istore_n 2, 1) := by decide +kernel
theorem dX10_tight_122 : decode cX10_tight 122 = .ok (.iinc 3 1, 3) := by decide +kernel
theorem dX10_tight_125 : decode cX10_tight 125 = .ok (.goto (-101), 3) := by decide +kernel
theorem dX10_tight_128 : decode cX10_tight 128 = .ok (.iload_n 2, 1) := by decide +kernel
theorem dX10_tight_129 : decode cX10_tight 129 = .ok (.ireturn, 1) := by decide +kernel
theorem dX10_late_0 : decode cX10_late 0 = .ok (.aload_n 0, 1) := by decide +kernel
theorem dX10_late_1 : decode cX10_late 1 = .ok (.iconst 0, 1) := by decide +kernel
theorem dX10_late_2 : decode cX10_late 2 = .ok (.putfield 1, 3) := by decide +kernel
theorem dX10_late_5 : decode cX10_late 5 = .ok (.aload_n 0, 1) := by decide +kernel
theorem dX10_late_6 : decode cX10_late 6 = .ok (.iload_n 1, 1) := by decide +kernel
theorem dX10_late_7 : decode cX10_late 7 = .ok (.invokevirtual 231, 3) := by decide +kernel
theorem dX10_late_10 : decode cX10_late 10 = .ok (.ifCond .eq 22, 3) := by decide +kernel
theorem dX10_late_13 : decode cX10_late 13 = .ok (.aload_n 0, 1) := by decide +kernel
theorem dX10_late_14 : decode cX10_late 14 = .ok (.iload_n 2, 1) := by decide +kernel
theorem dX10_late_15 : decode cX10_late 15 = .ok (.invokevirtual 259, 3) := by decide +kernel
theorem dX10_late_18 : decode cX10_late 18 = .ok (.ifCond .eq 14, 3) := by decide +kernel
theorem dX10_late_21 : decode cX10_late 21 = .ok (.iload_n 3, 1) := by decide +kernel
theorem dX10_late_22 : decode cX10_late 22 = .ok (.iconst 0, 1) := by decide +kernel
theorem dX10_late_23 : decode cX10_late 23 = .ok (.sipush 999, 3) := by decide +kernel
theorem dX10_late_26 : decode cX10_late 26 = .ok (.invokestatic 224, 3) := by decide +kernel
theorem dX10_late_29 : decode cX10_late 29 = .ok (.ifCond .ne 5, 3) := by decide +kernel
theorem dX10_late_32 : decode cX10_late 32 = .ok (.iconst (-1), 1) := by decide +kernel
theorem dX10_late_33 : decode cX10_late 33 = .ok (.ireturn, 1) := by decide +kernel
theorem dX10_late_34 : decode cX10_late 34 = .ok (.aload_n 0, 1) := by decide +kernel
theorem dX10_late_35 : decode cX10_late 35 = .ok (.iload_n 2, 1) := by decide +kernel
theorem dX10_late_36 : decode cX10_late 36 = .ok (.invokevirtual 262, 3) := by decide +kernel
theorem dX10_late_39 : decode cX10_late 39 = .ok (.iload_n 3, 1) := by decide +kernel
theorem dX10_late_40 : decode cX10_late 40 = .ok (.istore 4, 2) := by decide +kernel
theorem dX10_late_42 : decode cX10_late 42 = .ok (.iconst 0, 1) := by decide +kernel
theorem dX10_late_43 : decode cX10_late 43 = .ok (.istore 5, 2) := by decide +kernel
theorem dX10_late_45 : decode cX10_late 45 = .ok (.iload 5, 2) := by decide +kernel
theorem dX10_late_47 : decode cX10_late 47 = .ok (.aload_n 0, 1) := by decide +kernel
theorem dX10_late_48 : decode cX10_late 48 = .ok (.invokevirtual 228, 3) := by decide +kernel
theorem dX10_late_51 : decode cX10_late 51 = .ok (.if_icmp .ge 74, 3) := by decide +kernel
theorem dX10_late_54 : decode cX10_late 54 = .ok (.aload_n 0, 1) := by decide +kernel
theorem dX10_late_55 : decode cX10_late 55 = .ok (.getfield 118, 3) := by decide +kernel
theorem dX10_late_58 : decode cX10_late 58 = .ok (.iload 5, 2) := by decide +kernel
theorem dX10_late_60 : decode cX10_late 60 = .ok (.iaload, 1) := by decide +kernel
theorem dX10_late_61 : decode cX10_late 61 = .ok (.iload_n 3, 1) := by decide +kernel
theorem dX10_late_62 : decode cX10_late 62 = .ok (.if_icmp .le 5, 3) := by decide +kernel
theorem dX10_late_65 : decode cX10_late 65 = .ok (.iconst (-1), 1) := by decide +kernel
theorem dX10_late_66 : decode cX10_late 66 = .ok (.ireturn, 1) := by decide +kernel
theorem dX10_late_67 : decode cX10_late 67 = .ok (.aload_n 0, 1) := by decide +kernel
theorem dX10_late_68 : decode cX10_late 68 = .ok (.getfield 103, 3) := by decide +kernel
theorem dX10_late_71 : decode cX10_late 71 = .ok (.bipush 8, 2) := by decide +kernel
theorem dX10_late_73 : decode cX10_late 73 = .ok (.iload_n 1, 1) := by decide +kernel
theorem dX10_late_74 : decode cX10_late 74 = .ok (.imul, 1) := by decide +kernel
theorem dX10_late_75 : decode cX10_late 75 = .ok (.iload 5, 2) := by decide +kernel
theorem dX10_late_77 : decode cX10_late 77 = .ok (.iadd, 1) := by decide +kernel
theorem dX10_late_78 : decode cX10_late 78 = .ok (.iaload, 1) := by decide +kernel
theorem dX10_late_79 : decode cX10_late 79 = .ok (.ldc 170, 2) := by decide +kernel
theorem dX10_late_81 : decode cX10_late 81 = .ok (.if_icmp .le 38, 3) := by decide +kernel
theorem dX10_late_84 : decode cX10_late 84 = .ok (.iload_n 3, 1) := by decide +kernel
theorem dX10_late_85 : decode cX10_late 85 = .ok (.aload_n 0, 1) := by decide +kernel
theorem dX10_late_86 : decode cX10_late 86 = .ok (.getfield 103, 3) := by decide +kernel
theorem dX10_late_89 : decode cX10_late 89 = .ok (.bipush 8, 2) := by decide +kernel
theorem dX10_late_91 : decode cX10_late 91 = .ok (.iload_n 1, 1) := by decide +kernel
theorem dX10_late_92 : decode cX10_late 92 = .ok (.imul, 1) := by decide +kernel
theorem dX10_late_93 : decode cX10_late 93 = .ok (.iload 5, 2) := by decide +kernel
theorem dX10_late_95 : decode cX10_late 95 = .ok (.iadd, 1) := by decide +kernel
theorem dX10_late_96 : decode cX10_late 96 = .ok (.iaload, 1) := by decide +kernel
theorem dX10_late_97 : decode cX10_late 97 = .ok (.isub, 1) := by decide +kernel
theorem dX10_late_98 : decode cX10_late 98 = .ok (.iload 4, 2) := by decide +kernel
theorem dX10_late_100 : decode cX10_late 100 = .ok (.if_icmp .ge 19, 3) := by decide +kernel
theorem dX10_late_103 : decode cX10_late 103 = .ok (.iload_n 3, 1) := by decide +kernel
theorem dX10_late_104 : decode cX10_late 104 = .ok (.aload_n 0, 1) := by decide +kernel
theorem dX10_late_105 : decode cX10_late 105 = .ok (.getfield 103, 3) := by decide +kernel
theorem dX10_late_108 : decode cX10_late 108 = .ok (.bipush 8, 2) := by decide +kernel
theorem dX10_late_110 : decode cX10_late 110 = .ok (.iload_n 1, 1) := by decide +kernel
theorem dX10_late_111 : decode cX10_late 111 = .ok (.imul, 1) := by decide +kernel
theorem dX10_late_112 : decode cX10_late 112 = .ok (.iload 5, 2) := by decide +kernel
theorem dX10_late_114 : decode cX10_late 114 = .ok (.iadd, 1) := by decide +kernel
theorem dX10_late_115 : decode cX10_late 115 = .ok (.iaload, 1) := by decide +kernel
theorem dX10_late_116 : decode cX10_late 116 = .ok (.isub, 1) := by decide +kernel
theorem dX10_late_117 : decode cX10_late 117 = .ok (.istore 4, 2) := by decide +kernel
theorem dX10_late_119 : decode cX10_late 119 = .ok (.iinc 5 1, 3) := by decide +kernel
theorem dX10_late_122 : decode cX10_late 122 = .ok (.goto (-77), 3) := by decide +kernel
theorem dX10_late_125 : decode cX10_late 125 = .ok (.iload 4, 2) := by decide +kernel
theorem dX10_late_127 : decode cX10_late 127 = .ok (.ireturn, 1) := by decide +kernel
theorem dX10_isGoodWith_0 : decode cX10_isGoodWith 0 = .ok (.aload_n 1, 1) := by decide +kernel
theorem dX10_isGoodWith_1 : decode cX10_isGoodWith 1 = .ok (.iload_n 2, 1) := by decide +kernel
theorem dX10_isGoodWith_2 : decode cX10_isGoodWith 2 = .ok (.iload_n 3, 1) := by decide +kernel
theorem dX10_isGoodWith_3 : decode cX10_isGoodWith 3 = .ok (.iload 4, 2) := by decide +kernel
theorem dX10_isGoodWith_5 : decode cX10_isGoodWith 5 = .ok (.invokestatic 153, 3) := by decide +kernel
theorem dX10_isGoodWith_8 : decode cX10_isGoodWith 8 = .ok (.aload_n 0, 1) := by decide +kernel
theorem dX10_isGoodWith_9 : decode cX10_isGoodWith 9 = .ok (.aload_n 1, 1) := by decide +kernel
theorem dX10_isGoodWith_10 : decode cX10_isGoodWith 10 = .ok (.invokevirtual 266, 3) := by decide +kernel
theorem dX10_isGoodWith_13 : decode cX10_isGoodWith 13 = .ok (.istore 5, 2) := by decide +kernel
theorem dX10_isGoodWith_15 : decode cX10_isGoodWith 15 = .ok (.aload_n 1, 1) := by decide +kernel
theorem dX10_isGoodWith_16 : decode cX10_isGoodWith 16 = .ok (.iconst 1, 1) := by decide +kernel
theorem dX10_isGoodWith_17 : decode cX10_isGoodWith 17 = .ok (.dup2, 1) := by decide +kernel
theorem dX10_isGoodWith_18 : decode cX10_isGoodWith 18 = .ok (.iaload, 1) := by decide +kernel
theorem dX10_isGoodWith_19 : decode cX10_isGoodWith 19 = .ok (.iconst 1, 1) := by decide +kernel
theorem dX10_isGoodWith_20 : decode cX10_isGoodWith 20 = .ok (.isub, 1) := by decide +kernel
theorem dX10_isGoodWith_21 : decode cX10_isGoodWith 21 = .ok (.iastore, 1) := by decide +kernel
theorem dX10_isGoodWith_22 : decode cX10_isGoodWith 22 = .ok (.iload 5, 2) := by decide +kernel
theorem dX10_isGoodWith_24 : decode cX10_isGoodWith 24 = .ok (.ireturn, 1) := by decide +kernel
theorem dX10_mays_0 : decode cX10_mays 0 = .ok (.aload_n 0, 1) := by decide +kernel
theorem dX10_mays_1 : decode cX10_mays 1 = .ok (.getfield 74, 3) := by decide +kernel
theorem dX10_mays_4 : decode cX10_mays 4 = .ok (.iconst 0, 1) := by decide +kernel
theorem dX10_mays_5 : decode cX10_mays 5 = .ok (.aload_n 0, 1) := by decide +kernel
theorem dX10_mays_6 : decode cX10_mays 6 = .ok (.getfield 92, 3) := by decide +kernel
theorem dX10_mays_9 : decode cX10_mays 9 = .ok (.iconst 0, 1) := by decide +kernel
theorem dX10_mays_10 : decode cX10_mays 10 = .ok (.invokestatic 163, 3) := by decide +kernel
theorem dX10_mays_13 : decode cX10_mays 13 = .ok (.aload_n 0, 1) := by decide +kernel
theorem dX10_mays_14 : decode cX10_mays 14 = .ok (.getfield 92, 3) := by decide +kernel
theorem dX10_mays_17 : decode cX10_mays 17 = .ok (.iload_n 1, 1) := by decide +kernel
theorem dX10_mays_18 : decode cX10_mays 18 = .ok (.iload_n 2, 1) := by decide +kernel
theorem dX10_mays_19 : decode cX10_mays 19 = .ok (.invokestatic 142, 3) := by decide +kernel
theorem dX10_mays_22 : decode cX10_mays 22 = .ok (.istore_n 3, 1) := by decide +kernel
theorem dX10_mays_23 : decode cX10_mays 23 = .ok (.iload_n 3, 1) := by decide +kernel
theorem dX10_mays_24 : decode cX10_mays 24 = .ok (.iconst (-1), 1) := by decide +kernel
theorem dX10_mays_25 : decode cX10_mays 25 = .ok (.if_icmp .eq 11, 3) := by decide +kernel
theorem dX10_mays_28 : decode cX10_mays 28 = .ok (.aload_n 0, 1) := by decide +kernel
theorem dX10_mays_29 : decode cX10_mays 29 = .ok (.getfield 92, 3) := by decide +kernel
theorem dX10_mays_32 : decode cX10_mays 32 = .ok (.iload_n 3, 1) := by decide +kernel
theorem dX10_mays_33 : decode cX10_mays 33 = .ok (.invokestatic 256, 3) := by decide +kernel
theorem dX10_mays_36 : decode cX10_mays 36 = .ok (.aload_n 0, 1) := by decide +kernel
theorem dX10_mays_37 : decode cX10_mays 37 = .ok (.aload_n 0, 1) := by decide +kernel
theorem dX10_mays_38 : decode cX10_mays 38 = .ok (.getfield 92, 3) := by decide +kernel
theorem dX10_mays_41 : decode cX10_mays 41 = .ok (.iconst 0, 1) := by decide +kernel
theorem dX10_mays_42 : decode cX10_mays 42 = .ok (.iload_n 1, 1) := by decide +kernel
theorem dX10_mays_43 : decode cX10_mays 43 = .ok (.iload_n 2, 1) := by decide +kernel
theorem dX10_mays_44 : decode cX10_mays 44 = .ok (.invokevirtual 270, 3) := by decide +kernel
theorem dX10_mays_47 : decode cX10_mays 47 = .ok (.ifCond .eq 7, 3) := by decide +kernel
theorem dX10_mays_50 : decode cX10_mays 50 = .ok (.iconst 1, 1) := by decide +kernel
theorem dX10_mays_51 : decode cX10_mays 51 = .ok (.goto 4, 3) := by decide +kernel
theorem dX10_mays_54 : decode cX10_mays 54 = .ok (.iconst 0, 1) := by decide +kernel
theorem dX10_mays_55 : decode cX10_mays 55 = .ok (.aload_n 0, 1) := by decide +kernel
theorem dX10_mays_56 : decode cX10_mays 56 = .ok (.aload_n 0, 1) := by decide +kernel
theorem dX10_mays_57 : decode cX10_mays 57 = .ok (.getfield 92, 3) := by decide +kernel
theorem dX10_mays_60 : decode cX10_mays 60 = .ok (.iconst 0, 1) := by decide +kernel
theorem dX10_mays_61 : decode cX10_mays 61 = .ok (.iload_n 2, 1) := by decide +kernel
theorem dX10_mays_62 : decode cX10_mays 62 = .ok (.iload_n 1, 1) := by decide +kernel
theorem dX10_mays_63 : decode cX10_mays 63 = .ok (.invokevirtual 270, 3) := by decide +kernel
theorem dX10_mays_66 : decode cX10_mays 66 = .ok (.ifCond .eq 7, 3) := by decide +kernel
theorem dX10_mays_69 : decode cX10_mays 69 = .ok (.iconst 2, 1) := by decide +kernel
theorem dX10_mays_70 : decode cX10_mays 70 = .ok (.goto 4, 3) := by decide +kernel
theorem dX10_mays_73 : decode cX10_mays 73 = .ok (.iconst 0, 1) := by decide +kernel
theorem dX10_mays_74 : decode cX10_mays 74 = .ok (.iadd, 1) := by decide +kernel
theorem dX10_mays_75 : decode cX10_mays 75 = .ok (.aload_n 0, 1) := by decide +kernel
theorem dX10_mays_76 : decode cX10_mays 76 = .ok (.aload_n 0, 1) := by decide +kernel
theorem dX10_mays_77 : decode cX10_mays 77 = .ok (.getfield 92, 3) := by decide +kernel
theorem dX10_mays_80 : decode cX10_mays 80 = .ok (.iconst 1, 1) := by decide +kernel
theorem dX10_mays_81 : decode cX10_mays 81 = .ok (.iload_n 1, 1) := by decide +kernel
theorem dX10_mays_82 : decode cX10_mays 82 = .ok (.iload_n 2, 1) := by decide +kernel
theorem dX10_mays_83 : decode cX10_mays 83 = .ok (.invokevirtual 270, 3) := by decide +kernel
theorem dX10_mays_86 : decode cX10_mays 86 = .ok (.ifCond .eq 7, 3) := by decide +kernel
theorem dX10_mays_89 : decode cX10_mays 89 = .ok (.iconst 4, 1) := by decide +kernel
theorem dX10_mays_90 : decode cX10_mays 90 = .ok (.goto 4, 3) := by decide +kernel
theorem dX10_mays_93 : decode cX10_mays 93 = .ok (.iconst 0, 1) := by decide +kernel
theorem dX10_mays_94 : decode cX10_mays 94 = .ok (.iadd, 1) := by decide +kernel
theorem dX10_mays_95 : decode cX10_mays 95 = .ok (.ireturn, 1) := by decide +kernel
theorem dX10_may_0 : decode cX10_may 0 = .ok (.aload_n 0, 1) := by decide +kernel
theorem dX10_may_1 : decode cX10_may 1 = .ok (.iconst 0, 1) := by decide +kernel
theorem dX10_may_2 : decode cX10_may 2 = .ok (.putfield 1, 3) := by decide +kernel
theorem dX10_may_5 : decode cX10_may 5 = .ok (.aload_n 0, 1) := by decide +kernel
theorem dX10_may_6 : decode cX10_may 6 = .ok (.iload_n 1, 1) := by decide +kernel
theorem dX10_may_7 : decode cX10_may 7 = .ok (.iload_n 2, 1) := by decide +kernel
theorem dX10_may_8 : decode cX10_may 8 = .ok (.invokevirtual 234, 3) := by decide +kernel
theorem dX10_may_11 : decode cX10_may 11 = .ok (.ifCond .eq 12, 3) := by decide +kernel
theorem dX10_may_14 : decode cX10_may 14 = .ok (.aload_n 0, 1) := by decide +kernel
theorem dX10_may_15 : decode cX10_may 15 = .ok (.iload_n 1, 1) := by decide +kernel
theorem dX10_may_16 : decode cX10_may 16 = .ok (.iload_n 2, 1) := by decide +kernel
theorem dX10_may_17 : decode cX10_may 17 = .ok (.invokevirtual 273, 3) := by decide +kernel
theorem dX10_may_20 : decode cX10_may 20 = .ok (.goto 4, 3) := by decide +kernel
theorem dX10_may_23 : decode cX10_may 23 = .ok (.iconst (-1), 1) := by decide +kernel
theorem dX10_may_24 : decode cX10_may 24 = .ok (.ireturn, 1) := by decide +kernel
theorem dX10_idle_0 : decode cX10_idle 0 = .ok (.aload_n 0, 1) := by decide +kernel
theorem dX10_idle_1 : decode cX10_idle 1 = .ok (.iconst 0, 1) := by decide +kernel
theorem dX10_idle_2 : decode cX10_idle 2 = .ok (.putfield 1, 3) := by decide +kernel
theorem dX10_idle_5 : decode cX10_idle 5 = .ok (.iconst 0, 1) := by decide +kernel
theorem dX10_idle_6 : decode cX10_idle 6 = .ok (.istore_n 1, 1) := by decide +kernel
theorem dX10_idle_7 : decode cX10_idle 7 = .ok (.iconst 0, 1) := by decide +kernel
theorem dX10_idle_8 : decode cX10_idle 8 = .ok (.istore_n 2, 1) := by decide +kernel
theorem dX10_idle_9 : decode cX10_idle 9 = .ok (.iload_n 2, 1) := by decide +kernel
theorem dX10_idle_10 : decode cX10_idle 10 = .ok (.aload_n 0, 1) := by decide +kernel
theorem dX10_idle_11 : decode cX10_idle 11 = .ok (.invokevirtual 237, 3) := by decide +kernel
theorem dX10_idle_14 : decode cX10_idle 14 = .ok (.if_icmp .ge 44, 3) := by decide +kernel
theorem dX10_idle_17 : decode cX10_idle 17 = .ok (.aload_n 0, 1) := by decide +kernel
theorem dX10_idle_18 : decode cX10_idle 18 = .ok (.aload_n 0, 1) := by decide +kernel
theorem dX10_idle_19 : decode cX10_idle 19 = .ok (.getfield 74, 3) := by decide +kernel
theorem dX10_idle_22 : decode cX10_idle 22 = .ok (.bipush 30, 2) := by decide +kernel
theorem dX10_idle_24 : decode cX10_idle 24 = .ok (.iload_n 2, 1) := by decide +kernel
theorem dX10_idle_25 : decode cX10_idle 25 = .ok (.iadd, 1) := by decide +kernel
theorem dX10_idle_26 : decode cX10_idle 26 = .ok (.iaload, 1) := by decide +kernel
theorem dX10_idle_27 : decode cX10_idle 27 = .ok (.aload_n 0, 1) := by decide +kernel
theorem dX10_idle_28 : decode cX10_idle 28 = .ok (.getfield 74, 3) := by decide +kernel
theorem dX10_idle_31 : decode cX10_idle 31 = .ok (.bipush 58, 2) := by decide +kernel
theorem dX10_idle_33 : decode cX10_idle 33 = .ok (.iload_n 2, 1) := by decide +kernel
theorem dX10_idle_34 : decode cX10_idle 34 = .ok (.iadd, 1) := by decide +kernel
theorem dX10_idle_35 : decode cX10_idle 35 = .ok (.iaload, 1) := by decide +kernel
theorem dX10_idle_36 : decode cX10_idle 36 = .ok (.invokevirtual 273, 3) := by decide +kernel
theorem dX10_idle_39 : decode cX10_idle 39 = .ok (.invokestatic 276, 3) := by decide +kernel
theorem dX10_idle_42 : decode cX10_idle 42 = .ok (.iconst 1, 1) := by decide +kernel
theorem dX10_idle_43 : decode cX10_idle 43 = .ok (.if_icmp .ne 9, 3) := by decide +kernel
theorem dX10_idle_46 : decode cX10_idle 46 = .ok (.iload_n 1, 1) := by decide +kernel
theorem dX10_idle_47 : decode cX10_idle 47 = .ok (.iconst 1, 1) := by decide +kernel
theorem dX10_idle_48 : decode cX10_idle 48 = .ok (.iload_n 2, 1) := by decide +kernel
theorem dX10_idle_49 : decode cX10_idle 49 = .ok (.ishl, 1) := by decide +kernel
theorem dX10_idle_50 : decode cX10_idle 50 = .ok (.ior, 1) := by decide +kernel
theorem dX10_idle_51 : decode cX10_idle 51 = .ok (.istore_n 1, 1) := by decide +kernel
theorem dX10_idle_52 : decode cX10_idle 52 = .ok (.iinc 2 1, 3) := by decide +kernel
theorem dX10_idle_55 : decode cX10_idle 55 = .ok (.goto (-46), 3) := by decide +kernel
theorem dX10_idle_58 : decode cX10_idle 58 = .ok (.iload_n 1, 1) := by decide +kernel
theorem dX10_idle_59 : decode cX10_idle 59 = .ok (.ireturn, 1) := by decide +kernel
theorem dX10_goesOn_0 : decode cX10_goesOn 0 = .ok (.aload_n 0, 1) := by decide +kernel
theorem dX10_goesOn_1 : decode cX10_goesOn 1 = .ok (.getfield 279, 3) := by decide +kernel
theorem dX10_goesOn_4 : decode cX10_goesOn 4 = .ok (.sipush 999, 3) := by decide +kernel
theorem dX10_goesOn_7 : decode cX10_goesOn 7 = .ok (.if_icmp .le 4, 3) := by decide +kernel
theorem dX10_goesOn_10 : decode cX10_goesOn 10 = .ok (.return_, 1) := by decide +kernel
theorem dX10_goesOn_11 : decode cX10_goesOn 11 = .ok (.iload_n 1, 1) := by decide +kernel
theorem dX10_goesOn_12 : decode cX10_goesOn 12 = .ok (.aload_n 0, 1) := by decide +kernel
theorem dX10_goesOn_13 : decode cX10_goesOn 13 = .ok (.invokevirtual 228, 3) := by decide +kernel
theorem dX10_goesOn_16 : decode cX10_goesOn 16 = .ok (.iconst 1, 1) := by decide +kernel
theorem dX10_goesOn_17 : decode cX10_goesOn 17 = .ok (.isub, 1) := by decide +kernel
theorem dX10_goesOn_18 : decode cX10_goesOn 18 = .ok (.if_icmp .lt 14, 3) := by decide +kernel
theorem dX10_goesOn_21 : decode cX10_goesOn 21 = .ok (.aload_n 0, 1) := by decide +kernel
theorem dX10_goesOn_22 : decode cX10_goesOn 22 = .ok (.dup, 1) := by decide +kernel
theorem dX10_goesOn_23 : decode cX10_goesOn 23 = .ok (.getfield 279, 3) := by decide +kernel
theorem dX10_goesOn_26 : decode cX10_goesOn 26 = .ok (.iconst 1, 1) := by decide +kernel
theorem dX10_goesOn_27 : decode cX10_goesOn 27 = .ok (.iadd, 1) := by decide +kernel
theorem dX10_goesOn_28 : decode cX10_goesOn 28 = .ok (.putfield 279, 3) := by decide +kernel
theorem dX10_goesOn_31 : decode cX10_goesOn 31 = .ok (.return_, 1) := by decide +kernel
theorem dX10_goesOn_32 : decode cX10_goesOn 32 = .ok (.iload_n 2, 1) := by decide +kernel
theorem dX10_goesOn_33 : decode cX10_goesOn 33 = .ok (.iconst 1, 1) := by decide +kernel
theorem dX10_goesOn_34 : decode cX10_goesOn 34 = .ok (.iadd, 1) := by decide +kernel
theorem dX10_goesOn_35 : decode cX10_goesOn 35 = .ok (.aload_n 0, 1) := by decide +kernel
theorem dX10_goesOn_36 : decode cX10_goesOn 36 = .ok (.invokevirtual 228, 3) := by decide +kernel
theorem dX10_goesOn_39 : decode cX10_goesOn 39 = .ok (.if_icmp .ge 9, 3) := by decide +kernel
theorem dX10_goesOn_42 : decode cX10_goesOn 42 = .ok (.iload_n 2, 1) := by decide +kernel
theorem dX10_goesOn_43 : decode cX10_goesOn 43 = .ok (.iconst 1, 1) := by decide +kernel
theorem dX10_goesOn_44 : decode cX10_goesOn 44 = .ok (.iadd, 1) := by decide +kernel
theorem dX10_goesOn_45 : decode cX10_goesOn 45 = .ok (.goto 6, 3) := by decide +kernel
theorem dX10_goesOn_48 : decode cX10_goesOn 48 = .ok (.iload_n 1, 1) := by decide +kernel
theorem dX10_goesOn_49 : decode cX10_goesOn 49 = .ok (.iconst 2, 1) := by decide +kernel
theorem dX10_goesOn_50 : decode cX10_goesOn 50 = .ok (.iadd, 1) := by decide +kernel
theorem dX10_goesOn_51 : decode cX10_goesOn 51 = .ok (.istore_n 3, 1) := by decide +kernel
theorem dX10_goesOn_52 : decode cX10_goesOn 52 = .ok (.iload_n 2, 1) := by decide +kernel
theorem dX10_goesOn_53 : decode cX10_goesOn 53 = .ok (.iconst 1, 1) := by decide +kernel
theorem dX10_goesOn_54 : decode cX10_goesOn 54 = .ok (.iadd, 1) := by decide +kernel
theorem dX10_goesOn_55 : decode cX10_goesOn 55 = .ok (.aload_n 0, 1) := by decide +kernel
theorem dX10_goesOn_56 : decode cX10_goesOn 56 = .ok (.invokevirtual 228, 3) := by decide +kernel
theorem dX10_goesOn_59 : decode cX10_goesOn 59 = .ok (.if_icmp .ge 7, 3) := by decide +kernel
theorem dX10_goesOn_62 : decode cX10_goesOn 62 = .ok (.iload_n 1, 1) := by decide +kernel
theorem dX10_goesOn_63 : decode cX10_goesOn 63 = .ok (.goto 6, 3) := by decide +kernel
theorem dX10_goesOn_66 : decode cX10_goesOn 66 = .ok (.iload_n 1, 1) := by decide +kernel
theorem dX10_goesOn_67 : decode cX10_goesOn 67 = .ok (.iconst 1, 1) := by decide +kernel
theorem dX10_goesOn_68 : decode cX10_goesOn 68 = .ok (.iadd, 1) := by decide +kernel
theorem dX10_goesOn_69 : decode cX10_goesOn 69 = .ok (.istore 4, 2) := by decide +kernel
theorem dX10_goesOn_71 : decode cX10_goesOn 71 = .ok (.aload_n 0, 1) := by decide +kernel
theorem dX10_goesOn_72 : decode cX10_goesOn 72 = .ok (.getfield 92, 3) := by decide +kernel
theorem dX10_goesOn_75 : decode cX10_goesOn 75 = .ok (.iload_n 1, 1) := by decide +kernel
theorem dX10_goesOn_76 : decode cX10_goesOn 76 = .ok (.iload_n 2, 1) := by decide +kernel
theorem dX10_goesOn_77 : decode cX10_goesOn 77 = .ok (.invokestatic 142, 3) := by decide +kernel
theorem dX10_goesOn_80 : decode cX10_goesOn 80 = .ok (.iconst (-1), 1) := by decide +kernel
theorem dX10_goesOn_81 : decode cX10_goesOn 81 = .ok (.if_icmp .eq 11, 3) := by decide +kernel
theorem dX10_goesOn_84 : decode cX10_goesOn 84 = .ok (.aload_n 0, 1) := by decide +kernel
theorem dX10_goesOn_85 : decode cX10_goesOn 85 = .ok (.iload 4, 2) := by decide +kernel
theorem dX10_goesOn_87 : decode cX10_goesOn 87 = .ok (.iload_n 3, 1) := by decide +kernel
theorem dX10_goesOn_88 : decode cX10_goesOn 88 = .ok (.invokevirtual 282, 3) := by decide +kernel
theorem dX10_goesOn_91 : decode cX10_goesOn 91 = .ok (.return_, 1) := by decide +kernel
theorem dX10_goesOn_92 : decode cX10_goesOn 92 = .ok (.iconst 0, 1) := by decide +kernel
theorem dX10_goesOn_93 : decode cX10_goesOn 93 = .ok (.istore 5, 2) := by decide +kernel
theorem dX10_goesOn_95 : decode cX10_goesOn 95 = .ok (.iload 5, 2) := by decide +kernel
theorem dX10_goesOn_97 : decode cX10_goesOn 97 = .ok (.iconst 3, 1) := by decide +kernel
theorem dX10_goesOn_98 : decode cX10_goesOn 98 = .ok (.if_icmp .ge 76, 3) := by decide +kernel
theorem dX10_goesOn_101 : decode cX10_goesOn 101 = .ok (.iload 5, 2) := by decide +kernel
theorem dX10_goesOn_103 : decode cX10_goesOn 103 = .ok (.iconst 1, 1) := by decide +kernel
theorem dX10_goesOn_104 : decode cX10_goesOn 104 = .ok (.if_icmp .ne 7, 3) := by decide +kernel
theorem dX10_goesOn_107 : decode cX10_goesOn 107 = .ok (.iload_n 2, 1) := by decide +kernel
theorem dX10_goesOn_108 : decode cX10_goesOn 108 = .ok (.goto 4, 3) := by decide +kernel
theorem dX10_goesOn_111 : decode cX10_goesOn 111 = .ok (.iload_n 1, 1) := by decide +kernel
theorem dX10_goesOn_112 : decode cX10_goesOn 112 = .ok (.istore 6, 2) := by decide +kernel
theorem dX10_goesOn_114 : decode cX10_goesOn 114 = .ok (.aload_n 0, 1) := by decide +kernel
theorem dX10_goesOn_115 : decode cX10_goesOn 115 = .ok (.getfield 92, 3) := by decide +kernel
theorem dX10_goesOn_118 : decode cX10_goesOn 118 = .ok (.iload 5, 2) := by decide +kernel
theorem dX10_goesOn_120 : decode cX10_goesOn 120 = .ok (.iconst 2, 1) := by decide +kernel
theorem dX10_goesOn_121 : decode cX10_goesOn 121 = .ok (.if_icmp .ne 7, 3) := by decide +kernel
theorem dX10_goesOn_124 : decode cX10_goesOn 124 = .ok (.iconst 1, 1) := by decide +kernel
theorem dX10_goesOn_125 : decode cX10_goesOn 125 = .ok (.goto 4, 3) := by decide +kernel
theorem dX10_goesOn_128 : decode cX10_goesOn 128 = .ok (.iconst 0, 1) := by decide +kernel
theorem dX10_goesOn_129 : decode cX10_goesOn 129 = .ok (.iload 6, 2) := by decide +kernel
theorem dX10_goesOn_131 : decode cX10_goesOn 131 = .ok (.iload_n 1, 1) := by decide +kernel
theorem dX10_goesOn_132 : decode cX10_goesOn 132 = .ok (.iload_n 2, 1) := by decide +kernel
theorem dX10_goesOn_133 : decode cX10_goesOn 133 = .ok (.iadd, 1) := by decide +kernel
theorem dX10_goesOn_134 : decode cX10_goesOn 134 = .ok (.iload 6, 2) := by decide +kernel
theorem dX10_goesOn_136 : decode cX10_goesOn 136 = .ok (.isub, 1) := by decide +kernel
theorem dX10_goesOn_137 : decode cX10_goesOn 137 = .ok (.invokestatic 153, 3) := by decide +kernel
theorem dX10_goesOn_140 : decode cX10_goesOn 140 = .ok (.aload_n 0, 1) := by decide +kernel
theorem dX10_goesOn_141 : decode cX10_goesOn 141 = .ok (.aload_n 0, 1) := by decide +kernel
theorem dX10_goesOn_142 : decode cX10_goesOn 142 = .ok (.getfield 92, 3) := by decide +kernel
theorem dX10_goesOn_145 : decode cX10_goesOn 145 = .ok (.invokevirtual 266, 3) := by decide +kernel
theorem dX10_goesOn_148 : decode cX10_goesOn 148 = .ok (.ifCond .eq 10, 3) := by decide +kernel
theorem dX10_goesOn_151 : decode cX10_goesOn 151 = .ok (.aload_n 0, 1) := by decide +kernel
theorem dX10_goesOn_152 : decode cX10_goesOn 152 = .ok (.iload 4, 2) := by decide +kernel
theorem dX10_goesOn_154 : decode cX10_goesOn 154 = .ok (.iload_n 3, 1) := by decide +kernel
theorem dX10_goesOn_155 : decode cX10_goesOn 155 = .ok (.invokevirtual 282, 3) := by decide +kernel
theorem dX10_goesOn_158 : decode cX10_goesOn 158 = .ok (.aload_n 0, 1) := by decide +kernel
theorem dX10_goesOn_159 : decode cX10_goesOn 159 = .ok (.getfield 92, 3) := by decide +kernel
theorem dX10_goesOn_162 : decode cX10_goesOn 162 = .ok (.iconst 1, 1) := by decide +kernel
theorem dX10_goesOn_163 : decode cX10_goesOn 163 = .ok (.dup2, 1) := by decide +kernel
theorem dX10_goesOn_164 : decode cX10_goesOn 164 = .ok (.iaload, 1) := by decide +kernel
theorem dX10_goesOn_165 : decode cX10_goesOn 165 = .ok (.iconst 1, 1) := by decide +kernel
theorem dX10_goesOn_166 : decode cX10_goesOn 166 = .ok (.isub, 1) := by decide +kernel
theorem dX10_goesOn_167 : decode cX10_goesOn 167 = .ok (.iastore, 1) := by decide +kernel
theorem dX10_goesOn_168 : decode cX10_goesOn 168 = .ok (.iinc 5 1, 3) := by decide +kernel
theorem dX10_goesOn_171 : decode cX10_goesOn 171 = .ok (.goto (-76), 3) := by decide +kernel
theorem dX10_goesOn_174 : decode cX10_goesOn 174 = .ok (.return_, 1) := by decide +kernel
theorem dX10_ways_0 : decode cX10_ways 0 = .ok (.aload_n 0, 1) := by decide +kernel
theorem dX10_ways_1 : decode cX10_ways 1 = .ok (.iconst 0, 1) := by decide +kernel
theorem dX10_ways_2 : decode cX10_ways 2 = .ok (.putfield 1, 3) := by decide +kernel
theorem dX10_ways_5 : decode cX10_ways 5 = .ok (.aload_n 0, 1) := by decide +kernel
theorem dX10_ways_6 : decode cX10_ways 6 = .ok (.getfield 74, 3) := by decide +kernel
theorem dX10_ways_9 : decode cX10_ways 9 = .ok (.iconst 0, 1) := by decide +kernel
theorem dX10_ways_10 : decode cX10_ways 10 = .ok (.aload_n 0, 1) := by decide +kernel
theorem dX10_ways_11 : decode cX10_ways 11 = .ok (.getfield 92, 3) := by decide +kernel
theorem dX10_ways_14 : decode cX10_ways 14 = .ok (.iconst 0, 1) := by decide +kernel
theorem dX10_ways_15 : decode cX10_ways 15 = .ok (.invokestatic 163, 3) := by decide +kernel
theorem dX10_ways_18 : decode cX10_ways 18 = .ok (.aload_n 0, 1) := by decide +kernel
theorem dX10_ways_19 : decode cX10_ways 19 = .ok (.iconst 0, 1) := by decide +kernel
theorem dX10_ways_20 : decode cX10_ways 20 = .ok (.putfield 279, 3) := by decide +kernel
theorem dX10_ways_23 : decode cX10_ways 23 = .ok (.aload_n 0, 1) := by decide +kernel
theorem dX10_ways_24 : decode cX10_ways 24 = .ok (.iconst 0, 1) := by decide +kernel
theorem dX10_ways_25 : decode cX10_ways 25 = .ok (.iconst 1, 1) := by decide +kernel
theorem dX10_ways_26 : decode cX10_ways 26 = .ok (.invokevirtual 282, 3) := by decide +kernel
theorem dX10_ways_29 : decode cX10_ways 29 = .ok (.aload_n 0, 1) := by decide +kernel
theorem dX10_ways_30 : decode cX10_ways 30 = .ok (.getfield 279, 3) := by decide +kernel
theorem dX10_ways_33 : decode cX10_ways 33 = .ok (.sipush 999, 3) := by decide +kernel
theorem dX10_ways_36 : decode cX10_ways 36 = .ok (.if_icmp .le 9, 3) := by decide +kernel
theorem dX10_ways_39 : decode cX10_ways 39 = .ok (.sipush 999, 3) := by decide +kernel
theorem dX10_ways_42 : decode cX10_ways 42 = .ok (.goto 7, 3) := by decide +kernel
theorem dX10_ways_45 : decode cX10_ways 45 = .ok (.aload_n 0, 1) := by decide +kernel
theorem dX10_ways_46 : decode cX10_ways 46 = .ok (.getfield 279, 3) := by decide +kernel
theorem dX10_ways_49 : decode cX10_ways 49 = .ok (.ireturn, 1) := by decide +kernel
theorem dX10_isGoodWithout_0 : decode cX10_isGoodWithout 0 = .ok (.aload_n 0, 1) := by decide +kernel
theorem dX10_isGoodWithout_1 : decode cX10_isGoodWithout 1 = .ok (.getfield 74, 3) := by decide +kernel
theorem dX10_isGoodWithout_4 : decode cX10_isGoodWithout 4 = .ok (.iconst 0, 1) := by decide +kernel
theorem dX10_isGoodWithout_5 : decode cX10_isGoodWithout 5 = .ok (.aload_n 0, 1) := by decide +kernel
theorem dX10_isGoodWithout_6 : decode cX10_isGoodWithout 6 = .ok (.getfield 92, 3) := by decide +kernel
theorem dX10_isGoodWithout_9 : decode cX10_isGoodWithout 9 = .ok (.iconst 0, 1) := by decide +kernel
theorem dX10_isGoodWithout_10 : decode cX10_isGoodWithout 10 = .ok (.invokestatic 163, 3) := by decide +kernel
theorem dX10_isGoodWithout_13 : decode cX10_isGoodWithout 13 = .ok (.aload_n 0, 1) := by decide +kernel
theorem dX10_isGoodWithout_14 : decode cX10_isGoodWithout 14 = .ok (.invokevirtual 237, 3) := by decide +kernel
theorem dX10_isGoodWithout_17 : decode cX10_isGoodWithout 17 = .ok (.iconst 1, 1) := by decide +kernel
theorem dX10_isGoodWithout_18 : decode cX10_isGoodWithout 18 = .ok (.isub, 1) := by decide +kernel
theorem dX10_isGoodWithout_19 : decode cX10_isGoodWithout 19 = .ok (.istore 5, 2) := by decide +kernel
theorem dX10_isGoodWithout_21 : decode cX10_isGoodWithout 21 = .ok (.iload 5, 2) := by decide +kernel
theorem dX10_isGoodWithout_23 : decode cX10_isGoodWithout 23 = .ok (.ifCond .lt 27, 3) := by decide +kernel
theorem dX10_isGoodWithout_26 : decode cX10_isGoodWithout 26 = .ok (.iload_n 1, 1) := by decide +kernel
theorem dX10_isGoodWithout_27 : decode cX10_isGoodWithout 27 = .ok (.iload 5, 2) := by decide +kernel
theorem dX10_isGoodWithout_29 : decode cX10_isGoodWithout 29 = .ok (.invokestatic 286, 3) := by decide +kernel
theorem dX10_isGoodWithout_32 : decode cX10_isGoodWithout 32 = .ok (.ifCond .eq 12, 3) := by decide +kernel
theorem dX10_isGoodWithout_35 : decode cX10_isGoodWithout 35 = .ok (.aload_n 0, 1) := by decide +kernel
theorem dX10_isGoodWithout_36 : decode cX10_isGoodWithout 36 = .ok (.getfield 92, 3) := by decide +kernel
theorem dX10_isGoodWithout_39 : decode cX10_isGoodWithout 39 = .ok (.iload 5, 2) := by decide +kernel
theorem dX10_isGoodWithout_41 : decode cX10_isGoodWithout 41 = .ok (.invokestatic 256, 3) := by decide +kernel
theorem dX10_isGoodWithout_44 : decode cX10_isGoodWithout 44 = .ok (.iinc 5 (-1), 3) := by decide +kernel
theorem dX10_isGoodWithout_47 : decode cX10_isGoodWithout 47 = .ok (.goto (-26), 3) := by decide +kernel
theorem dX10_isGoodWithout_50 : decode cX10_isGoodWithout 50 = .ok (.aload_n 0, 1) := by decide +kernel
theorem dX10_isGoodWithout_51 : decode cX10_isGoodWithout 51 = .ok (.aload_n 0, 1) := by decide +kernel
theorem dX10_isGoodWithout_52 : decode cX10_isGoodWithout 52 = .ok (.getfield 92, 3) := by decide +kernel
theorem dX10_isGoodWithout_55 : decode cX10_isGoodWithout 55 = .ok (.iload_n 2, 1) := by decide +kernel
theorem dX10_isGoodWithout_56 : decode cX10_isGoodWithout 56 = .ok (.iload_n 3, 1) := by decide +kernel
theorem dX10_isGoodWithout_57 : decode cX10_isGoodWithout 57 = .ok (.iload 4, 2) := by decide +kernel
theorem dX10_isGoodWithout_59 : decode cX10_isGoodWithout 59 = .ok (.invokevirtual 270, 3) := by decide +kernel
theorem dX10_isGoodWithout_62 : decode cX10_isGoodWithout 62 = .ok (.ireturn, 1) := by decide +kernel
theorem dX10_yields_0 : decode cX10_yields 0 = .ok (.aload_n 0, 1) := by decide +kernel
theorem dX10_yields_1 : decode cX10_yields 1 = .ok (.iconst 0, 1) := by decide +kernel
theorem dX10_yields_2 : decode cX10_yields 2 = .ok (.putfield 1, 3) := by decide +kernel
theorem dX10_yields_5 : decode cX10_yields 5 = .ok (.aload_n 0, 1) := by decide +kernel
theorem dX10_yields_6 : decode cX10_yields 6 = .ok (.iload_n 1, 1) := by decide +kernel
theorem dX10_yields_7 : decode cX10_yields 7 = .ok (.iload_n 2, 1) := by decide +kernel
theorem dX10_yields_8 : decode cX10_yields 8 = .ok (.iload_n 3, 1) := by decide +kernel
theorem dX10_yields_9 : decode cX10_yields 9 = .ok (.invokevirtual 253, 3) := by decide +kernel
theorem dX10_yields_12 : decode cX10_yields 12 = .ok (.ifCond .ne 5, 3) := by decide +kernel
theorem dX10_yields_15 : decode cX10_yields 15 = .ok (.iconst (-1), 1) := by decide +kernel
theorem dX10_yields_16 : decode cX10_yields 16 = .ok (.ireturn, 1) := by decide +kernel
theorem dX10_yields_17 : decode cX10_yields 17 = .ok (.aload_n 0, 1) := by decide +kernel
theorem dX10_yields_18 : decode cX10_yields 18 = .ok (.iconst 0, 1) := by decide +kernel
theorem dX10_yields_19 : decode cX10_yields 19 = .ok (.iload_n 1, 1) := by decide +kernel
theorem dX10_yields_20 : decode cX10_yields 20 = .ok (.iload_n 2, 1) := by decide +kernel
theorem dX10_yields_21 : decode cX10_yields 21 = .ok (.iload_n 3, 1) := by decide +kernel
theorem dX10_yields_22 : decode cX10_yields 22 = .ok (.invokevirtual 289, 3) := by decide +kernel
theorem dX10_yields_25 : decode cX10_yields 25 = .ok (.ifCond .eq 5, 3) := by decide +kernel
theorem dX10_yields_28 : decode cX10_yields 28 = .ok (.iconst 0, 1) := by decide +kernel
theorem dX10_yields_29 : decode cX10_yields 29 = .ok (.ireturn, 1) := by decide +kernel
theorem dX10_yields_30 : decode cX10_yields 30 = .ok (.iconst 0, 1) := by decide +kernel
theorem dX10_yields_31 : decode cX10_yields 31 = .ok (.istore 4, 2) := by decide +kernel
theorem dX10_yields_33 : decode cX10_yields 33 = .ok (.iload 4, 2) := by decide +kernel
theorem dX10_yields_35 : decode cX10_yields 35 = .ok (.aload_n 0, 1) := by decide +kernel
theorem dX10_yields_36 : decode cX10_yields 36 = .ok (.invokevirtual 237, 3) := by decide +kernel
theorem dX10_yields_39 : decode cX10_yields 39 = .ok (.if_icmp .ge 28, 3) := by decide +kernel
theorem dX10_yields_42 : decode cX10_yields 42 = .ok (.aload_n 0, 1) := by decide +kernel
theorem dX10_yields_43 : decode cX10_yields 43 = .ok (.iconst 1, 1) := by decide +kernel
theorem dX10_yields_44 : decode cX10_yields 44 = .ok (.iload 4, 2) := by decide +kernel
theorem dX10_yields_46 : decode cX10_yields 46 = .ok (.ishl, 1) := by decide +kernel
theorem dX10_yields_47 : decode cX10_yields 47 = .ok (.iload_n 1, 1) := by decide +kernel
theorem dX10_yields_48 : decode cX10_yields 48 = .ok (.iload_n 2, 1) := by decide +kernel
theorem dX10_yields_49 : decode cX10_yields 49 = .ok (.iload_n 3, 1) := by decide +kernel
theorem dX10_yields_50 : decode cX10_yields 50 = .ok (.invokevirtual 289, 3) := by decide +kernel
theorem dX10_yields_53 : decode cX10_yields 53 = .ok (.ifCond .eq 8, 3) := by decide +kernel
theorem dX10_yields_56 : decode cX10_yields 56 = .ok (.iconst 1, 1) := by decide +kernel
theorem dX10_yields_57 : decode cX10_yields 57 = .ok (.iload 4, 2) := by decide +kernel
theorem dX10_yields_59 : decode cX10_yields 59 = .ok (.ishl, 1) := by decide +kernel
theorem dX10_yields_60 : decode cX10_yields 60 = .ok (.ireturn, 1) := by decide +kernel
theorem dX10_yields_61 : decode cX10_yields 61 = .ok (.iinc 4 1, 3) := by decide +kernel
theorem dX10_yields_64 : decode cX10_yields 64 = .ok (.goto (-31), 3) := by decide +kernel
theorem dX10_yields_67 : decode cX10_yields 67 = .ok (.iconst 1, 1) := by decide +kernel
theorem dX10_yields_68 : decode cX10_yields 68 = .ok (.istore 4, 2) := by decide +kernel
theorem dX10_yields_70 : decode cX10_yields 70 = .ok (.iload 4, 2) := by decide +kernel
theorem dX10_yields_72 : decode cX10_yields 72 = .ok (.aload_n 0, 1) := by decide +kernel
theorem dX10_yields_73 : decode cX10_yields 73 = .ok (.invokevirtual 237, 3) := by decide +kernel
theorem dX10_yields_76 : decode cX10_yields 76 = .ok (.if_icmp .ge 54, 3) := by decide +kernel
theorem dX10_yields_79 : decode cX10_yields 79 = .ok (.iconst 0, 1) := by decide +kernel
theorem dX10_yields_80 : decode cX10_yields 80 = .ok (.istore 5, 2) := by decide +kernel
theorem dX10_yields_82 : decode cX10_yields 82 = .ok (.iload 5, 2) := by decide +kernel
theorem dX10_yields_84 : decode cX10_yields 84 = .ok (.iload 4, 2) := by decide +kernel
theorem dX10_yields_86 : decode cX10_yields 86 = .ok (.if_icmp .ge 38, 3) := by decide +kernel
theorem dX10_yields_89 : decode cX10_yields 89 = .ok (.aload_n 0, 1) := by decide +kernel
theorem dX10_yields_90 : decode cX10_yields 90 = .ok (.iconst 1, 1) := by decide +kernel
theorem dX10_yields_91 : decode cX10_yields 91 = .ok (.iload 4, 2) := by decide +kernel
theorem dX10_yields_93 : decode cX10_yields 93 = .ok (.ishl, 1) := by decide +kernel
theorem dX10_yields_94 : decode cX10_yields 94 = .ok (.iconst 1, 1) := by decide +kernel
theorem dX10_yields_95 : decode cX10_yields 95 = .ok (.iload 5, 2) := by decide +kernel
theorem dX10_yields_97 : decode cX10_yields 97 = .ok (.ishl, 1) := by decide +kernel
theorem dX10_yields_98 : decode cX10_yields 98 = .ok (.ior, 1) := by decide +kernel
theorem dX10_yields_99 : decode cX10_yields 99 = .ok (.iload_n 1, 1) := by decide +kernel
theorem dX10_yields_100 : decode cX10_yields 100 = .ok (.iload_n 2, 1) := by decide +kernel
theorem dX10_yields_101 : decode cX10_yields 101 = .ok (.iload_n 3, 1) := by decide +kernel
theorem dX10_yields_102 : decode cX10_yields 102 = .ok (.invokevirtual 289, 3) := by decide +kernel
theorem dX10_yields_105 : decode cX10_yields 105 = .ok (.ifCond .eq 13, 3) := by decide +kernel
theorem dX10_yields_108 : decode cX10_yields 108 = .ok (.iconst 1, 1) := by decide +kernel
theorem dX10_yields_109 : decode cX10_yields 109 = .ok (.iload 4, 2) := by decide +kernel
theorem dX10_yields_111 : decode cX10_yields 111 = .ok (.ishl, 1) := by decide +kernel
theorem dX10_yields_112 : decode cX10_yields 112 = .ok (.iconst 1, 1) := by decide +kernel
theorem dX10_yields_113 : decode cX10_yields 113 = .ok (.iload 5, 2) := by decide +kernel
theorem dX10_yields_115 : decode cX10_yields 115 = .ok (.ishl, 1) := by decide +kernel
theorem dX10_yields_116 : decode cX10_yields 116 = .ok (.ior, 1) := by decide +kernel
theorem dX10_yields_117 : decode cX10_yields 117 = .ok (.ireturn, 1) := by decide +kernel
theorem dX10_yields_118 : decode cX10_yields 118 = .ok (.iinc 5 1, 3) := by decide +kernel
theorem dX10_yields_121 : decode cX10_yields 121 = .ok (.goto (-39), 3) := by decide +kernel
theorem dX10_yields_124 : decode cX10_yields 124 = .ok (.iinc 4 1, 3) := by decide +kernel
theorem dX10_yields_127 : decode cX10_yields 127 = .ok (.goto (-57), 3) := by decide +kernel
theorem dX10_yields_130 : decode cX10_yields 130 = .ok (.iconst 2, 1) := by decide +kernel
theorem dX10_yields_131 : decode cX10_yields 131 = .ok (.istore 4, 2) := by decide +kernel
theorem dX10_yields_133 : decode cX10_yields 133 = .ok (.iload 4, 2) := by decide +kernel
theorem dX10_yields_135 : decode cX10_yields 135 = .ok (.aload_n 0, 1) := by decide +kernel
theorem dX10_yields_136 : decode cX10_yields 136 = .ok (.invokevirtual 237, 3) := by decide +kernel
theorem dX10_yields_139 : decode cX10_yields 139 = .ok (.if_icmp .ge 80, 3) := by decide +kernel
theorem dX10_yields_142 : decode cX10_yields 142 = .ok (.iconst 1, 1) := by decide +kernel
theorem dX10_yields_143 : decode cX10_yields 143 = .ok (.istore 5, 2) := by decide +kernel
theorem dX10_yields_145 : decode cX10_yields 145 = .ok (.iload 5, 2) := by decide +kernel
theorem dX10_yields_147 : decode cX10_yields 147 = .ok (.iload 4, 2) := by decide +kernel
theorem dX10_yields_149 : decode cX10_yields 149 = .ok (.if_icmp .ge 64, 3) := by decide +kernel
theorem dX10_yields_152 : decode cX10_yields 152 = .ok (.iconst 0, 1) := by decide +kernel
theorem dX10_yields_153 : decode cX10_yields 153 = .ok (.istore 6, 2) := by decide +kernel
theorem dX10_yields_155 : decode cX10_yields 155 = .ok (.iload 6, 2) := by decide +kernel
theorem dX10_yields_157 : decode cX10_yields 157 = .ok (.iload 5, 2) := by decide +kernel
theorem dX10_yields_159 : decode cX10_yields 159 = .ok (.if_icmp .ge 48, 3) := by decide +kernel
theorem dX10_yields_162 : decode cX10_yields 162 = .ok (.aload_n 0, 1) := by decide +kernel
theorem dX10_yields_163 : decode cX10_yields 163 = .ok (.iconst 1, 1) := by decide +kernel
theorem dX10_yields_164 : decode cX10_yields 164 = .ok (.iload 4, 2) := by decide +kernel
theorem dX10_yields_166 : decode cX10_yields 166 = .ok (.ishl, 1) := by decide +kernel
theorem dX10_yields_167 : decode cX10_yields 167 = .ok (.iconst 1, 1) := by decide +kernel
theorem dX10_yields_168 : decode cX10_yields 168 = .ok (.iload 5, 2) := by decide +kernel
theorem dX10_yields_170 : decode cX10_yields 170 = .ok (.ishl, 1) := by decide +kernel
theorem dX10_yields_171 : decode cX10_yields 171 = .ok (.ior, 1) := by decide +kernel
theorem dX10_yields_172 : decode cX10_yields 172 = .ok (.iconst 1, 1) := by decide +kernel
theorem dX10_yields_173 : decode cX10_yields 173 = .ok (.iload 6, 2) := by decide +kernel
theorem dX10_yields_175 : decode cX10_yields 175 = .ok (.ishl, 1) := by decide +kernel
theorem dX10_yields_176 : decode cX10_yields 176 = .ok (.ior, 1) := by decide +kernel
theorem dX10_yields_177 : decode cX10_yields 177 = .ok (.iload_n 1, 1) := by decide +kernel
theorem dX10_yields_178 : decode cX10_yields 178 = .ok (.iload_n 2, 1) := by decide +kernel
theorem dX10_yields_179 : decode cX10_yields 179 = .ok (.iload_n 3, 1) := by decide +kernel
theorem dX10_yields_180 : decode cX10_yields 180 = .ok (.invokevirtual 289, 3) := by decide +kernel
theorem dX10_yields_183 : decode cX10_yields 183 = .ok (.ifCond .eq 18, 3) := by decide +kernel
theorem dX10_yields_186 : decode cX10_yields 186 = .ok (.iconst 1, 1) := by decide +kernel
theorem dX10_yields_187 : decode cX10_yields 187 = .ok (.iload 4, 2) := by decide +kernel
theorem dX10_yields_189 : decode cX10_yields 189 = .ok (.ishl, 1) := by decide +kernel
theorem dX10_yields_190 : decode cX10_yields 190 = .ok (.iconst 1, 1) := by decide +kernel
theorem dX10_yields_191 : decode cX10_yields 191 = .ok (.iload 5, 2) := by decide +kernel
theorem dX10_yields_193 : decode cX10_yields 193 = .ok (.ishl, 1) := by decide +kernel
theorem dX10_yields_194 : decode cX10_yields 194 = .ok (.ior, 1) := by decide +kernel
theorem dX10_yields_195 : decode cX10_yields 195 = .ok (.iconst 1, 1) := by decide +kernel
theorem dX10_yields_196 : decode cX10_yields 196 = .ok (.iload 6, 2) := by decide +kernel
theorem dX10_yields_198 : decode cX10_yields 198 = .ok (.ishl, 1) := by decide +kernel
theorem dX10_yields_199 : decode cX10_yields 199 = .ok (.ior, 1) := by decide +kernel
theorem dX10_yields_200 : decode cX10_yields 200 = .ok (.ireturn, 1) := by decide +kernel
theorem dX10_yields_201 : decode cX10_yields 201 = .ok (.iinc 6 1, 3) := by decide +kernel
theorem dX10_yields_204 : decode cX10_yields 204 = .ok (.goto (-49), 3) := by decide +kernel
theorem dX10_yields_207 : decode cX10_yields 207 = .ok (.iinc 5 1, 3) := by decide +kernel
theorem dX10_yields_210 : decode cX10_yields 210 = .ok (.goto (-65), 3) := by decide +kernel
theorem dX10_yields_213 : decode cX10_yields 213 = .ok (.iinc 4 1, 3) := by decide +kernel
theorem dX10_yields_216 : decode cX10_yields 216 = .ok (.goto (-83), 3) := by decide +kernel
theorem dX10_yields_219 : decode cX10_yields 219 = .ok (.bipush (-2), 2) := by decide +kernel
theorem dX10_yields_221 : decode cX10_yields 221 = .ok (.ireturn, 1) := by decide +kernel
theorem dX10_laysOrder_0 : decode cX10_laysOrder 0 = .ok (.aload_n 0, 1) := by decide +kernel
theorem dX10_laysOrder_1 : decode cX10_laysOrder 1 = .ok (.aload_n 0, 1) := by decide +kernel
theorem dX10_laysOrder_2 : decode cX10_laysOrder 2 = .ok (.aload_n 0, 1) := by decide +kernel
theorem dX10_laysOrder_3 : decode cX10_laysOrder 3 = .ok (.getfield 74, 3) := by decide +kernel
theorem dX10_laysOrder_6 : decode cX10_laysOrder 6 = .ok (.invokevirtual 243, 3) := by decide +kernel
theorem dX10_laysOrder_9 : decode cX10_laysOrder 9 = .ok (.putfield 293, 3) := by decide +kernel
theorem dX10_laysOrder_12 : decode cX10_laysOrder 12 = .ok (.aload_n 0, 1) := by decide +kernel
theorem dX10_laysOrder_13 : decode cX10_laysOrder 13 = .ok (.aload_n 0, 1) := by decide +kernel
theorem dX10_laysOrder_14 : decode cX10_laysOrder 14 = .ok (.getfield 293, 3) := by decide +kernel
theorem dX10_laysOrder_17 : decode cX10_laysOrder 17 = .ok (.invokevirtual 262, 3) := by decide +kernel
theorem dX10_laysOrder_20 : decode cX10_laysOrder 20 = .ok (.return_, 1) := by decide +kernel
theorem dX10_isAhead_0 : decode cX10_isAhead 0 = .ok (.aload_n 0, 1) := by decide +kernel
theorem dX10_isAhead_1 : decode cX10_isAhead 1 = .ok (.getfield 118, 3) := by decide +kernel
theorem dX10_isAhead_4 : decode cX10_isAhead 4 = .ok (.iload_n 1, 1) := by decide +kernel
theorem dX10_isAhead_5 : decode cX10_isAhead 5 = .ok (.iaload, 1) := by decide +kernel
theorem dX10_isAhead_6 : decode cX10_isAhead 6 = .ok (.aload_n 0, 1) := by decide +kernel
theorem dX10_isAhead_7 : decode cX10_isAhead 7 = .ok (.getfield 293, 3) := by decide +kernel
theorem dX10_isAhead_10 : decode cX10_isAhead 10 = .ok (.iadd, 1) := by decide +kernel
theorem dX10_isAhead_11 : decode cX10_isAhead 11 = .ok (.aload_n 0, 1) := by decide +kernel
theorem dX10_isAhead_12 : decode cX10_isAhead 12 = .ok (.getfield 118, 3) := by decide +kernel
theorem dX10_isAhead_15 : decode cX10_isAhead 15 = .ok (.iload_n 2, 1) := by decide +kernel
theorem dX10_isAhead_16 : decode cX10_isAhead 16 = .ok (.iaload, 1) := by decide +kernel
theorem dX10_isAhead_17 : decode cX10_isAhead 17 = .ok (.if_icmp .gt 7, 3) := by decide +kernel
theorem dX10_isAhead_20 : decode cX10_isAhead 20 = .ok (.iconst 1, 1) := by decide +kernel
theorem dX10_isAhead_21 : decode cX10_isAhead 21 = .ok (.goto 4, 3) := by decide +kernel
theorem dX10_isAhead_24 : decode cX10_isAhead 24 = .ok (.iconst 0, 1) := by decide +kernel
theorem dX10_isAhead_25 : decode cX10_isAhead 25 = .ok (.ireturn, 1) := by decide +kernel
theorem dX10_ahead_0 : decode cX10_ahead 0 = .ok (.aload_n 0, 1) := by decide +kernel
theorem dX10_ahead_1 : decode cX10_ahead 1 = .ok (.iconst 0, 1) := by decide +kernel
theorem dX10_ahead_2 : decode cX10_ahead 2 = .ok (.putfield 1, 3) := by decide +kernel
theorem dX10_ahead_5 : decode cX10_ahead 5 = .ok (.aload_n 0, 1) := by decide +kernel
theorem dX10_ahead_6 : decode cX10_ahead 6 = .ok (.iload_n 1, 1) := by decide +kernel
theorem dX10_ahead_7 : decode cX10_ahead 7 = .ok (.invokevirtual 231, 3) := by decide +kernel
theorem dX10_ahead_10 : decode cX10_ahead 10 = .ok (.ifCond .eq 11, 3) := by decide +kernel
theorem dX10_ahead_13 : decode cX10_ahead 13 = .ok (.aload_n 0, 1) := by decide +kernel
theorem dX10_ahead_14 : decode cX10_ahead 14 = .ok (.iload_n 2, 1) := by decide +kernel
theorem dX10_ahead_15 : decode cX10_ahead 15 = .ok (.invokevirtual 231, 3) := by decide +kernel
theorem dX10_ahead_18 : decode cX10_ahead 18 = .ok (.ifCond .ne 5, 3) := by decide +kernel
theorem dX10_ahead_21 : decode cX10_ahead 21 = .ok (.iconst (-1), 1) := by decide +kernel
theorem dX10_ahead_22 : decode cX10_ahead 22 = .ok (.ireturn, 1) := by decide +kernel
theorem dX10_ahead_23 : decode cX10_ahead 23 = .ok (.aload_n 0, 1) := by decide +kernel
theorem dX10_ahead_24 : decode cX10_ahead 24 = .ok (.invokevirtual 296, 3) := by decide +kernel
theorem dX10_ahead_27 : decode cX10_ahead 27 = .ok (.aload_n 0, 1) := by decide +kernel
theorem dX10_ahead_28 : decode cX10_ahead 28 = .ok (.iload_n 1, 1) := by decide +kernel
theorem dX10_ahead_29 : decode cX10_ahead 29 = .ok (.iload_n 2, 1) := by decide +kernel
theorem dX10_ahead_30 : decode cX10_ahead 30 = .ok (.invokevirtual 299, 3) := by decide +kernel
theorem dX10_ahead_33 : decode cX10_ahead 33 = .ok (.ifCond .eq 7, 3) := by decide +kernel
theorem dX10_ahead_36 : decode cX10_ahead 36 = .ok (.iconst 1, 1) := by decide +kernel
theorem dX10_ahead_37 : decode cX10_ahead 37 = .ok (.goto 4, 3) := by decide +kernel
theorem dX10_ahead_40 : decode cX10_ahead 40 = .ok (.iconst 0, 1) := by decide +kernel
theorem dX10_ahead_41 : decode cX10_ahead 41 = .ok (.ireturn, 1) := by decide +kernel
theorem dX10_isAlike_0 : decode cX10_isAlike 0 = .ok (.iconst 0, 1) := by decide +kernel
theorem dX10_isAlike_1 : decode cX10_isAlike 1 = .ok (.istore_n 3, 1) := by decide +kernel
theorem dX10_isAlike_2 : decode cX10_isAlike 2 = .ok (.iload_n 3, 1) := by decide +kernel
theorem dX10_isAlike_3 : decode cX10_isAlike 3 = .ok (.aload_n 0, 1) := by decide +kernel
theorem dX10_isAlike_4 : decode cX10_isAlike 4 = .ok (.invokevirtual 228, 3) := by decide +kernel
theorem dX10_isAlike_7 : decode cX10_isAlike 7 = .ok (.if_icmp .ge 77, 3) := by decide +kernel
theorem dX10_isAlike_10 : decode cX10_isAlike 10 = .ok (.iload_n 3, 1) := by decide +kernel
theorem dX10_isAlike_11 : decode cX10_isAlike 11 = .ok (.iconst 1, 1) := by decide +kernel
theorem dX10_isAlike_12 : decode cX10_isAlike 12 = .ok (.iadd, 1) := by decide +kernel
theorem dX10_isAlike_13 : decode cX10_isAlike 13 = .ok (.istore 4, 2) := by decide +kernel
theorem dX10_isAlike_15 : decode cX10_isAlike 15 = .ok (.iload 4, 2) := by decide +kernel
theorem dX10_isAlike_17 : decode cX10_isAlike 17 = .ok (.aload_n 0, 1) := by decide +kernel
theorem dX10_isAlike_18 : decode cX10_isAlike 18 = .ok (.invokevirtual 228, 3) := by decide +kernel
theorem dX10_isAlike_21 : decode cX10_isAlike 21 = .ok (.if_icmp .ge 57, 3) := by decide +kernel
theorem dX10_isAlike_24 : decode cX10_isAlike 24 = .ok (.iload_n 1, 1) := by decide +kernel
theorem dX10_isAlike_25 : decode cX10_isAlike 25 = .ok (.iload_n 3, 1) := by decide +kernel
theorem dX10_isAlike_26 : decode cX10_isAlike 26 = .ok (.invokestatic 286, 3) := by decide +kernel
theorem dX10_isAlike_29 : decode cX10_isAlike 29 = .ok (.ifCond .eq 43, 3) := by decide +kernel
theorem dX10_isAlike_32 : decode cX10_isAlike 32 = .ok (.iload_n 1, 1) := by decide +kernel
theorem dX10_isAlike_33 : decode cX10_isAlike 33 = .ok (.iload 4, 2) := by decide +kernel
theorem dX10_isAlike_35 : decode cX10_isAlike 35 = .ok (.invokestatic 286, 3) := by decide +kernel
theorem dX10_isAlike_38 : decode cX10_isAlike 38 = .ok (.ifCond .eq 34, 3) := by decide +kernel
theorem dX10_isAlike_41 : decode cX10_isAlike 41 = .ok (.aload_n 0, 1) := by decide +kernel
theorem dX10_isAlike_42 : decode cX10_isAlike 42 = .ok (.iload_n 3, 1) := by decide +kernel
theorem dX10_isAlike_43 : decode cX10_isAlike 43 = .ok (.iload 4, 2) := by decide +kernel
theorem dX10_isAlike_45 : decode cX10_isAlike 45 = .ok (.invokevirtual 299, 3) := by decide +kernel
theorem dX10_isAlike_48 : decode cX10_isAlike 48 = .ok (.ifCond .ne 13, 3) := by decide +kernel
theorem dX10_isAlike_51 : decode cX10_isAlike 51 = .ok (.aload_n 0, 1) := by decide +kernel
theorem dX10_isAlike_52 : decode cX10_isAlike 52 = .ok (.iload 4, 2) := by decide +kernel
theorem dX10_isAlike_54 : decode cX10_isAlike 54 = .ok (.iload_n 3, 1) := by decide +kernel
theorem dX10_isAlike_55 : decode cX10_isAlike 55 = .ok (.invokevirtual 299, 3) := by decide +kernel
theorem dX10_isAlike_58 : decode cX10_isAlike 58 = .ok (.ifCond .eq 7, 3) := by decide +kernel
theorem dX10_isAlike_61 : decode cX10_isAlike 61 = .ok (.iconst 1, 1) := by decide +kernel
theorem dX10_isAlike_62 : decode cX10_isAlike 62 = .ok (.goto 4, 3) := by decide +kernel
theorem dX10_isAlike_65 : decode cX10_isAlike 65 = .ok (.iconst 0, 1) := by decide +kernel
theorem dX10_isAlike_66 : decode cX10_isAlike 66 = .ok (.iload_n 2, 1) := by decide +kernel
theorem dX10_isAlike_67 : decode cX10_isAlike 67 = .ok (.if_icmp .eq 5, 3) := by decide +kernel
theorem dX10_isAlike_70 : decode cX10_isAlike 70 = .ok (.iconst 0, 1) := by decide +kernel
theorem dX10_isAlike_71 : decode cX10_isAlike 71 = .ok (.ireturn, 1) := by decide +kernel
theorem dX10_isAlike_72 : decode cX10_isAlike 72 = .ok (.iinc 4 1, 3) := by decide +kernel
theorem dX10_isAlike_75 : decode cX10_isAlike 75 = .ok (.goto (-60), 3) := by decide +kernel
theorem dX10_isAlike_78 : decode cX10_isAlike 78 = .ok (.iinc 3 1, 3) := by decide +kernel
theorem dX10_isAlike_81 : decode cX10_isAlike 81 = .ok (.goto (-79), 3) := by decide +kernel
theorem dX10_isAlike_84 : decode cX10_isAlike 84 = .ok (.iconst 1, 1) := by decide +kernel
theorem dX10_isAlike_85 : decode cX10_isAlike 85 = .ok (.ireturn, 1) := by decide +kernel
theorem dX10_most_0 : decode cX10_most 0 = .ok (.aload_n 0, 1) := by decide +kernel
theorem dX10_most_1 : decode cX10_most 1 = .ok (.iconst 0, 1) := by decide +kernel
theorem dX10_most_2 : decode cX10_most 2 = .ok (.putfield 1, 3) := by decide +kernel
theorem dX10_most_5 : decode cX10_most 5 = .ok (.iload_n 2, 1) := by decide +kernel
theorem dX10_most_6 : decode cX10_most 6 = .ok (.iconst 0, 1) := by decide +kernel
theorem dX10_most_7 : decode cX10_most 7 = .ok (.iconst 1, 1) := by decide +kernel
theorem dX10_most_8 : decode cX10_most 8 = .ok (.invokestatic 224, 3) := by decide +kernel
theorem dX10_most_11 : decode cX10_most 11 = .ok (.ifCond .ne 5, 3) := by decide +kernel
theorem dX10_most_14 : decode cX10_most 14 = .ok (.iconst (-1), 1) := by decide +kernel
theorem dX10_most_15 : decode cX10_most 15 = .ok (.ireturn, 1) := by decide +kernel
theorem dX10_most_16 : decode cX10_most 16 = .ok (.aload_n 0, 1) := by decide +kernel
theorem dX10_most_17 : decode cX10_most 17 = .ok (.invokevirtual 296, 3) := by decide +kernel
theorem dX10_most_20 : decode cX10_most 20 = .ok (.iconst 0, 1) := by decide +kernel
theorem dX10_most_21 : decode cX10_most 21 = .ok (.istore_n 3, 1) := by decide +kernel
theorem dX10_most_22 : decode cX10_most 22 = .ok (.iconst 1, 1) := by decide +kernel
theorem dX10_most_23 : decode cX10_most 23 = .ok (.istore 4, 2) := by decide +kernel
theorem dX10_most_25 : decode cX10_most 25 = .ok (.iload 4, 2) := by decide +kernel
theorem dX10_most_27 : decode cX10_most 27 = .ok (.iconst 1, 1) := by decide +kernel
theorem dX10_most_28 : decode cX10_most 28 = .ok (.aload_n 0, 1) := by decide +kernel
theorem dX10_most_29 : decode cX10_most 29 = .ok (.invokevirtual 228, 3) := by decide +kernel
theorem dX10_most_32 : decode cX10_most 32 = .ok (.ishl, 1) := by decide +kernel
theorem dX10_most_33 : decode cX10_most 33 = .ok (.if_icmp .ge 34, 3) := by decide +kernel
theorem dX10_most_36 : decode cX10_most 36 = .ok (.iload 4, 2) := by decide +kernel
theorem dX10_most_38 : decode cX10_most 38 = .ok (.invokestatic 276, 3) := by decide +kernel
theorem dX10_most_41 : decode cX10_most 41 = .ok (.iload_n 3, 1) := by decide +kernel
theorem dX10_most_42 : decode cX10_most 42 = .ok (.invokestatic 276, 3) := by decide +kernel
theorem dX10_most_45 : decode cX10_most 45 = .ok (.if_icmp .le 16, 3) := by decide +kernel
theorem dX10_most_48 : decode cX10_most 48 = .ok (.aload_n 0, 1) := by decide +kernel
theorem dX10_most_49 : decode cX10_most 49 = .ok (.iload 4, 2) := by decide +kernel
theorem dX10_most_51 : decode cX10_most 51 = .ok (.iload_n 1, 1) := by decide +kernel
theorem dX10_most_52 : decode cX10_most 52 = .ok (.invokevirtual 302, 3) := by decide +kernel
theorem dX10_most_55 : decode cX10_most 55 = .ok (.ifCond .eq 6, 3) := by decide +kernel
theorem dX10_most_58 : decode cX10_most 58 = .ok (.iload 4, 2) := by decide +kernel
theorem dX10_most_60 : decode cX10_most 60 = .ok (.istore_n 3, 1) := by decide +kernel
theorem dX10_most_61 : decode cX10_most 61 = .ok (.iinc 4 1, 3) := by decide +kernel
theorem dX10_most_64 : decode cX10_most 64 = .ok (.goto (-39), 3) := by decide +kernel
theorem dX10_most_67 : decode cX10_most 67 = .ok (.iload_n 2, 1) := by decide +kernel
theorem dX10_most_68 : decode cX10_most 68 = .ok (.ifCond .ne 10, 3) := by decide +kernel
theorem dX10_most_71 : decode cX10_most 71 = .ok (.iload_n 3, 1) := by decide +kernel
theorem dX10_most_72 : decode cX10_most 72 = .ok (.invokestatic 276, 3) := by decide +kernel
theorem dX10_most_75 : decode cX10_most 75 = .ok (.goto 4, 3) := by decide +kernel
theorem dX10_most_78 : decode cX10_most 78 = .ok (.iload_n 3, 1) := by decide +kernel
theorem dX10_most_79 : decode cX10_most 79 = .ok (.ireturn, 1) := by decide +kernel
theorem dX10_chain_0 : decode cX10_chain 0 = .ok (.aload_n 0, 1) := by decide +kernel
theorem dX10_chain_1 : decode cX10_chain 1 = .ok (.iconst 1, 1) := by decide +kernel
theorem dX10_chain_2 : decode cX10_chain 2 = .ok (.iload_n 1, 1) := by decide +kernel
theorem dX10_chain_3 : decode cX10_chain 3 = .ok (.invokevirtual 306, 3) := by decide +kernel
theorem dX10_chain_6 : decode cX10_chain 6 = .ok (.ireturn, 1) := by decide +kernel
theorem dX10_crowd_0 : decode cX10_crowd 0 = .ok (.aload_n 0, 1) := by decide +kernel
theorem dX10_crowd_1 : decode cX10_crowd 1 = .ok (.iconst 0, 1) := by decide +kernel
theorem dX10_crowd_2 : decode cX10_crowd 2 = .ok (.iload_n 1, 1) := by decide +kernel
theorem dX10_crowd_3 : decode cX10_crowd 3 = .ok (.invokevirtual 306, 3) := by decide +kernel
theorem dX10_crowd_6 : decode cX10_crowd 6 = .ok (.ireturn, 1) := by decide +kernel
theorem dX10_laysRooms_0 : decode cX10_laysRooms 0 = .ok (.aload_n 0, 1) := by decide +kernel
theorem dX10_laysRooms_1 : decode cX10_laysRooms 1 = .ok (.invokevirtual 296, 3) := by decide +kernel
theorem dX10_laysRooms_4 : decode cX10_laysRooms 4 = .ok (.iconst 0, 1) := by decide +kernel
theorem dX10_laysRooms_5 : decode cX10_laysRooms 5 = .ok (.istore_n 1, 1) := by decide +kernel
theorem dX10_laysRooms_6 : decode cX10_laysRooms 6 = .ok (.iconst 0, 1) := by decide +kernel
theorem dX10_laysRooms_7 : decode cX10_laysRooms 7 = .ok (.istore_n 2, 1) := by decide +kernel
theorem dX10_laysRooms_8 : decode cX10_laysRooms 8 = .ok (.iconst 0, 1) := by decide +kernel
theorem dX10_laysRooms_9 : decode cX10_laysRooms 9 = .ok (.istore_n 3, 1) := by decide +kernel
theorem dX10_laysRooms_10 : decode cX10_laysRooms 10 = .ok (.iload_n 3, 1) := by decide +kernel
theorem dX10_laysRooms_11 : decode cX10_laysRooms 11 = .ok (.aload_n 0, 1) := by decide +kernel
theorem dX10_laysRooms_12 : decode cX10_laysRooms 12 = .ok (.invokevirtual 228, 3) := by decide +kernel
theorem dX10_laysRooms_15 : decode cX10_laysRooms 15 = .ok (.if_icmp .ge 114, 3) := by decide +kernel
theorem dX10_laysRooms_18 : decode cX10_laysRooms 18 = .ok (.iconst (-1), 1) := by decide +kernel
theorem dX10_laysRooms_19 : decode cX10_laysRooms 19 = .ok (.istore 4, 2) := by decide +kernel
theorem dX10_laysRooms_21 : decode cX10_laysRooms 21 = .ok (.iconst 0, 1) := by decide +kernel
theorem dX10_laysRooms_22 : decode cX10_laysRooms 22 = .ok (.istore 5, 2) := by decide +kernel
theorem dX10_laysRooms_24 : decode cX10_laysRooms 24 = .ok (.iload 5, 2) := by decide +kernel
theorem dX10_laysRooms_26 : decode cX10_laysRooms 26 = .ok (.aload_n 0, 1) := by decide +kernel
theorem dX10_laysRooms_27 : decode cX10_laysRooms 27 = .ok (.invokevirtual 228, 3) := by decide +kernel
theorem dX10_laysRooms_30 : decode cX10_laysRooms 30 = .ok (.if_icmp .ge 45, 3) := by decide +kernel
theorem dX10_laysRooms_33 : decode cX10_laysRooms 33 = .ok (.iload_n 1, 1) := by decide +kernel
theorem dX10_laysRooms_34 : decode cX10_laysRooms 34 = .ok (.iload 5, 2) := by decide +kernel
theorem dX10_laysRooms_36 : decode cX10_laysRooms 36 = .ok (.invokestatic 286, 3) := by decide +kernel
theorem dX10_laysRooms_39 : decode cX10_laysRooms 39 = .ok (.ifCond .ne 30, 3) := by decide +kernel
theorem dX10_laysRooms_42 : decode cX10_laysRooms 42 = .ok (.iload 4, 2) := by decide +kernel
theorem dX10_laysRooms_44 : decode cX10_laysRooms 44 = .ok (.iconst (-1), 1) := by decide +kernel
theorem dX10_laysRooms_45 : decode cX10_laysRooms 45 = .ok (.if_icmp .eq 20, 3) := by decide +kernel
theorem dX10_laysRooms_48 : decode cX10_laysRooms 48 = .ok (.aload_n 0, 1) := by decide +kernel
theorem dX10_laysRooms_49 : decode cX10_laysRooms 49 = .ok (.getfield 118, 3) := by decide +kernel
theorem dX10_laysRooms_52 : decode cX10_laysRooms 52 = .ok (.iload 5, 2) := by decide +kernel
theorem dX10_laysRooms_54 : decode cX10_laysRooms 54 = .ok (.iaload, 1) := by decide +kernel
theorem dX10_laysRooms_55 : decode cX10_laysRooms 55 = .ok (.aload_n 0, 1) := by decide +kernel
theorem dX10_laysRooms_56 : decode cX10_laysRooms 56 = .ok (.getfield 118, 3) := by decide +kernel
theorem dX10_laysRooms_59 : decode cX10_laysRooms 59 = .ok (.iload 4, 2) := by decide +kernel
theorem dX10_laysRooms_61 : decode cX10_laysRooms 61 = .ok (.iaload, 1) := by decide +kernel
theorem dX10_laysRooms_62 : decode cX10_laysRooms 62 = .ok (.if_icmp .ge 7, 3) := by decide +kernel
theorem dX10_laysRooms_65 : decode cX10_laysRooms 65 = .ok (.iload 5, 2) := by decide +kernel
theorem dX10_laysRooms_67 : decode cX10_laysRooms 67 = .ok (.istore 4, 2) := by decide +kernel
theorem dX10_laysRooms_69 : decode cX10_laysRooms 69 = .ok (.iinc 5 1, 3) := by decide +kernel
theorem dX10_laysRooms_72 : decode cX10_laysRooms 72 = .ok (.goto (-48), 3) := by decide +kernel
theorem dX10_laysRooms_75 : decode cX10_laysRooms 75 = .ok (.iconst 0, 1) := by decide +kernel
theorem dX10_laysRooms_76 : decode cX10_laysRooms 76 = .ok (.istore 5, 2) := by decide +kernel
theorem dX10_laysRooms_78 : decode cX10_laysRooms 78 = .ok (.aload_n 0, 1) := by decide +kernel
theorem dX10_laysRooms_79 : decode cX10_laysRooms 79 = .ok (.iload 5, 2) := by decide +kernel
theorem dX10_laysRooms_81 : decode cX10_laysRooms 81 = .ok (.iload 4, 2) := by decide +kernel
theorem dX10_laysRooms_83 : decode cX10_laysRooms 83 = .ok (.iload_n 1, 1) := by decide +kernel
theorem dX10_laysRooms_84 : decode cX10_laysRooms 84 = .ok (.invokevirtual 310, 3) := by decide +kernel
theorem dX10_laysRooms_87 : decode cX10_laysRooms 87 = .ok (.ifCond .ne 9, 3) := by decide +kernel
theorem dX10_laysRooms_90 : decode cX10_laysRooms 90 = .ok (.iinc 5 1, 3) := by decide +kernel
theorem dX10_laysRooms_93 : decode cX10_laysRooms 93 = .ok (.goto (-15), 3) := by decide +kernel
theorem dX10_laysRooms_96 : decode cX10_laysRooms 96 = .ok (.aload_n 0, 1) := by decide +kernel
theorem dX10_laysRooms_97 : decode cX10_laysRooms 97 = .ok (.getfield 121, 3) := by decide +kernel
theorem dX10_laysRooms_100 : decode cX10_laysRooms 100 = .ok (.iload 4, 2) := by decide +kernel
theorem dX10_laysRooms_102 : decode cX10_laysRooms 102 = .ok (.iload 5, 2) := by decide +kernel
theorem dX10_laysRooms_104 : decode cX10_laysRooms 104 = .ok (.iastore, 1) := by decide +kernel
theorem dX10_laysRooms_105 : decode cX10_laysRooms 105 = .ok (.iload_n 1, 1) := by decide +kernel
theorem dX10_laysRooms_106 : decode cX10_laysRooms 106 = .ok (.iconst 1, 1) := by decide +kernel
theorem dX10_laysRooms_107 : decode cX10_laysRooms 107 = .ok (.iload 4, 2) := by decide +kernel
theorem dX10_laysRooms_109 : decode cX10_laysRooms 109 = .ok (.ishl, 1) := by decide +kernel
theorem dX10_laysRooms_110 : decode cX10_laysRooms 110 = .ok (.ior, 1) := by decide +kernel
theorem dX10_laysRooms_111 : decode cX10_laysRooms 111 = .ok (.istore_n 1, 1) := by decide +kernel
theorem dX10_laysRooms_112 : decode cX10_laysRooms 112 = .ok (.iload 5, 2) := by decide +kernel
theorem dX10_laysRooms_114 : decode cX10_laysRooms 114 = .ok (.iload_n 2, 1) := by decide +kernel
theorem dX10_laysRooms_115 : decode cX10_laysRooms 115 = .ok (.if_icmp .lt 8, 3) := by decide +kernel
theorem dX10_laysRooms_118 : decode cX10_laysRooms 118 = .ok (.iload 5, 2) := by decide +kernel
theorem dX10_laysRooms_120 : decode cX10_laysRooms 120 = .ok (.iconst 1, 1) := by decide +kernel
theorem dX10_laysRooms_121 : decode cX10_laysRooms 121 = .ok (.iadd, 1) := by decide +kernel
theorem dX10_laysRooms_122 : decode cX10_laysRooms 122 = .ok (.istore_n 2, 1) := by decide +kernel
theorem dX10_laysRooms_123 : decode cX10_laysRooms 123 = .ok (.iinc 3 1, 3) := by decide +kernel
theorem dX10_laysRooms_126 : decode cX10_laysRooms 126 = .ok (.goto (-116), 3) := by decide +kernel
theorem dX10_laysRooms_129 : decode cX10_laysRooms 129 = .ok (.iload_n 2, 1) := by decide +kernel
theorem dX10_laysRooms_130 : decode cX10_laysRooms 130 = .ok (.ireturn, 1) := by decide +kernel
theorem dX10_isFree_0 : decode cX10_isFree 0 = .ok (.iconst 0, 1) := by decide +kernel
theorem dX10_isFree_1 : decode cX10_isFree 1 = .ok (.istore 4, 2) := by decide +kernel
theorem dX10_isFree_3 : decode cX10_isFree 3 = .ok (.iload 4, 2) := by decide +kernel
theorem dX10_isFree_5 : decode cX10_isFree 5 = .ok (.aload_n 0, 1) := by decide +kernel
theorem dX10_isFree_6 : decode cX10_isFree 6 = .ok (.invokevirtual 228, 3) := by decide +kernel
theorem dX10_isFree_9 : decode cX10_isFree 9 = .ok (.if_icmp .ge 41, 3) := by decide +kernel
theorem dX10_isFree_12 : decode cX10_isFree 12 = .ok (.iload_n 3, 1) := by decide +kernel
theorem dX10_isFree_13 : decode cX10_isFree 13 = .ok (.iload 4, 2) := by decide +kernel
theorem dX10_isFree_15 : decode cX10_isFree 15 = .ok (.invokestatic 286, 3) := by decide +kernel
theorem dX10_isFree_18 : decode cX10_isFree 18 = .ok (.ifCond .eq 26, 3) := by decide +kernel
theorem dX10_isFree_21 : decode cX10_isFree 21 = .ok (.aload_n 0, 1) := by decide +kernel
theorem dX10_isFree_22 : decode cX10_isFree 22 = .ok (.getfield 121, 3) := by decide +kernel
theorem dX10_isFree_25 : decode cX10_isFree 25 = .ok (.iload 4, 2) := by decide +kernel
theorem dX10_isFree_27 : decode cX10_isFree 27 = .ok (.iaload, 1) := by decide +kernel
theorem dX10_isFree_28 : decode cX10_isFree 28 = .ok (.iload_n 1, 1) := by decide +kernel
theorem dX10_isFree_29 : decode cX10_isFree 29 = .ok (.if_icmp .ne 15, 3) := by decide +kernel
theorem dX10_isFree_32 : decode cX10_isFree 32 = .ok (.aload_n 0, 1) := by decide +kernel
theorem dX10_isFree_33 : decode cX10_isFree 33 = .ok (.iload 4, 2) := by decide +kernel
theorem dX10_isFree_35 : decode cX10_isFree 35 = .ok (.iload_n 2, 1) := by decide +kernel
theorem dX10_isFree_36 : decode cX10_isFree 36 = .ok (.invokevirtual 299, 3) := by decide +kernel
theorem dX10_isFree_39 : decode cX10_isFree 39 = .ok (.ifCond .ne 5, 3) := by decide +kernel
theorem dX10_isFree_42 : decode cX10_isFree 42 = .ok (.iconst 0, 1) := by decide +kernel
theorem dX10_isFree_43 : decode cX10_isFree 43 = .ok (.ireturn, 1) := by decide +kernel
theorem dX10_isFree_44 : decode cX10_isFree 44 = .ok (.iinc 4 1, 3) := by decide +kernel
theorem dX10_isFree_47 : decode cX10_isFree 47 = .ok (.goto (-44), 3) := by decide +kernel
theorem dX10_isFree_50 : decode cX10_isFree 50 = .ok (.iconst 1, 1) := by decide +kernel
theorem dX10_isFree_51 : decode cX10_isFree 51 = .ok (.ireturn, 1) := by decide +kernel
theorem dX10_room_0 : decode cX10_room 0 = .ok (.aload_n 0, 1) := by decide +kernel
theorem dX10_room_1 : decode cX10_room 1 = .ok (.iconst 0, 1) := by decide +kernel
theorem dX10_room_2 : decode cX10_room 2 = .ok (.putfield 1, 3) := by decide +kernel
theorem dX10_room_5 : decode cX10_room 5 = .ok (.iload_n 1, 1) := by decide +kernel
theorem dX10_room_6 : decode cX10_room 6 = .ok (.iconst (-1), 1) := by decide +kernel
theorem dX10_room_7 : decode cX10_room 7 = .ok (.if_icmp .eq 13, 3) := by decide +kernel
theorem dX10_room_10 : decode cX10_room 10 = .ok (.aload_n 0, 1) := by decide +kernel
theorem dX10_room_11 : decode cX10_room 11 = .ok (.iload_n 1, 1) := by decide +kernel
theorem dX10_room_12 : decode cX10_room 12 = .ok (.invokevirtual 231, 3) := by decide +kernel
theorem dX10_room_15 : decode cX10_room 15 = .ok (.ifCond .ne 5, 3) := by decide +kernel
theorem dX10_room_18 : decode cX10_room 18 = .ok (.iconst (-1), 1) := by decide +kernel
theorem dX10_room_19 : decode cX10_room 19 = .ok (.ireturn, 1) := by decide +kernel
theorem dX10_room_20 : decode cX10_room 20 = .ok (.aload_n 0, 1) := by decide +kernel
theorem dX10_room_21 : decode cX10_room 21 = .ok (.invokevirtual 313, 3) := by decide +kernel
theorem dX10_room_24 : decode cX10_room 24 = .ok (.istore_n 2, 1) := by decide +kernel
theorem dX10_room_25 : decode cX10_room 25 = .ok (.iload_n 1, 1) := by decide +kernel
theorem dX10_room_26 : decode cX10_room 26 = .ok (.iconst (-1), 1) := by decide +kernel
theorem dX10_room_27 : decode cX10_room 27 = .ok (.if_icmp .ne 7, 3) := by decide +kernel
theorem dX10_room_30 : decode cX10_room 30 = .ok (.iload_n 2, 1) := by decide +kernel
theorem dX10_room_31 : decode cX10_room 31 = .ok (.goto 9, 3) := by decide +kernel
theorem dX10_room_34 : decode cX10_room 34 = .ok (.aload_n 0, 1) := by decide +kernel
theorem dX10_room_35 : decode cX10_room 35 = .ok (.getfield 121, 3) := by decide +kernel
theorem dX10_room_38 : decode cX10_room 38 = .ok (.iload_n 1, 1) := by decide +kernel
theorem dX10_room_39 : decode cX10_room 39 = .ok (.iaload, 1) := by decide +kernel
theorem dX10_room_40 : decode cX10_room 40 = .ok (.ireturn, 1) := by decide +kernel
theorem dX10_laysShape_0 : decode cX10_laysShape 0 = .ok (.aload_n 0, 1) := by decide +kernel
theorem dX10_laysShape_1 : decode cX10_laysShape 1 = .ok (.invokevirtual 296, 3) := by decide +kernel
theorem dX10_laysShape_4 : decode cX10_laysShape 4 = .ok (.iconst 0, 1) := by decide +kernel
theorem dX10_laysShape_5 : decode cX10_laysShape 5 = .ok (.istore_n 1, 1) := by decide +kernel
theorem dX10_laysShape_6 : decode cX10_laysShape 6 = .ok (.iload_n 1, 1) := by decide +kernel
theorem dX10_laysShape_7 : decode cX10_laysShape 7 = .ok (.aload_n 0, 1) := by decide +kernel
theorem dX10_laysShape_8 : decode cX10_laysShape 8 = .ok (.invokevirtual 228, 3) := by decide +kernel
theorem dX10_laysShape_11 : decode cX10_laysShape 11 = .ok (.if_icmp .ge 16, 3) := by decide +kernel
theorem dX10_laysShape_14 : decode cX10_laysShape 14 = .ok (.aload_n 0, 1) := by decide +kernel
theorem dX10_laysShape_15 : decode cX10_laysShape 15 = .ok (.getfield 124, 3) := by decide +kernel
theorem dX10_laysShape_18 : decode cX10_laysShape 18 = .ok (.iload_n 1, 1) := by decide +kernel
theorem dX10_laysShape_19 : decode cX10_laysShape 19 = .ok (.iconst 0, 1) := by decide +kernel
theorem dX10_laysShape_20 : decode cX10_laysShape 20 = .ok (.iastore, 1) := by decide +kernel
theorem dX10_laysShape_21 : decode cX10_laysShape 21 = .ok (.iinc 1 1, 3) := by decide +kernel
theorem dX10_laysShape_24 : decode cX10_laysShape 24 = .ok (.goto (-18), 3) := by decide +kernel
theorem dX10_laysShape_27 : decode cX10_laysShape 27 = .ok (.iconst 0, 1) := by decide +kernel
theorem dX10_laysShape_28 : decode cX10_laysShape 28 = .ok (.istore_n 1, 1) := by decide +kernel
theorem dX10_laysShape_29 : decode cX10_laysShape 29 = .ok (.iconst 0, 1) := by decide +kernel
theorem dX10_laysShape_30 : decode cX10_laysShape 30 = .ok (.istore_n 2, 1) := by decide +kernel
theorem dX10_laysShape_31 : decode cX10_laysShape 31 = .ok (.iload_n 2, 1) := by decide +kernel
theorem dX10_laysShape_32 : decode cX10_laysShape 32 = .ok (.aload_n 0, 1) := by decide +kernel
theorem dX10_laysShape_33 : decode cX10_laysShape 33 = .ok (.invokevirtual 228, 3) := by decide +kernel
theorem dX10_laysShape_36 : decode cX10_laysShape 36 = .ok (.if_icmp .ge 78, 3) := by decide +kernel
theorem dX10_laysShape_39 : decode cX10_laysShape 39 = .ok (.iconst 0, 1) := by decide +kernel
theorem dX10_laysShape_40 : decode cX10_laysShape 40 = .ok (.istore_n 3, 1) := by decide +kernel
theorem dX10_laysShape_41 : decode cX10_laysShape 41 = .ok (.iload_n 3, 1) := by decide +kernel
theorem dX10_laysShape_42 : decode cX10_laysShape 42 = .ok (.aload_n 0, 1) := by decide +kernel
theorem dX10_laysShape_43 : decode cX10_laysShape 43 = .ok (.invokevirtual 228, 3) := by decide +kernel
theorem dX10_laysShape_46 : decode cX10_laysShape 46 = .ok (.if_icmp .ge 62, 3) := by decide +kernel
theorem dX10_laysShape_49 : decode cX10_laysShape 49 = .ok (.iconst 0, 1) := by decide +kernel
theorem dX10_laysShape_50 : decode cX10_laysShape 50 = .ok (.istore 4, 2) := by decide +kernel
theorem dX10_laysShape_52 : decode cX10_laysShape 52 = .ok (.iconst 0, 1) := by decide +kernel
theorem dX10_laysShape_53 : decode cX10_laysShape 53 = .ok (.istore 5, 2) := by decide +kernel
theorem dX10_laysShape_55 : decode cX10_laysShape 55 = .ok (.iload 5, 2) := by decide +kernel
theorem dX10_laysShape_57 : decode cX10_laysShape 57 = .ok (.aload_n 0, 1) := by decide +kernel
theorem dX10_laysShape_58 : decode cX10_laysShape 58 = .ok (.invokevirtual 228, 3) := by decide +kernel
theorem dX10_laysShape_61 : decode cX10_laysShape 61 = .ok (.if_icmp .ge 22, 3) := by decide +kernel
theorem dX10_laysShape_64 : decode cX10_laysShape 64 = .ok (.aload_n 0, 1) := by decide +kernel
theorem dX10_laysShape_65 : decode cX10_laysShape 65 = .ok (.iload 5, 2) := by decide +kernel
theorem dX10_laysShape_67 : decode cX10_laysShape 67 = .ok (.iload_n 3, 1) := by decide +kernel
theorem dX10_laysShape_68 : decode cX10_laysShape 68 = .ok (.invokevirtual 299, 3) := by decide +kernel
theorem dX10_laysShape_71 : decode cX10_laysShape 71 = .ok (.ifCond .eq 6, 3) := by decide +kernel
theorem dX10_laysShape_74 : decode cX10_laysShape 74 = .ok (.iinc 4 1, 3) := by decide +kernel
theorem dX10_laysShape_77 : decode cX10_laysShape 77 = .ok (.iinc 5 1, 3) := by decide +kernel
theorem dX10_laysShape_80 : decode cX10_laysShape 80 = .ok (.goto (-25), 3) := by decide +kernel
theorem dX10_laysShape_83 : decode cX10_laysShape 83 = .ok (.iload 4, 2) := by decide +kernel
theorem dX10_laysShape_85 : decode cX10_laysShape 85 = .ok (.iload_n 2, 1) := by decide +kernel
theorem dX10_laysShape_86 : decode cX10_laysShape 86 = .ok (.if_icmp .eq 6, 3) := by decide +kernel
theorem dX10_laysShape_89 : decode cX10_laysShape 89 = .ok (.goto 13, 3) := by decide +kernel
theorem dX10_laysShape_92 : decode cX10_laysShape 92 = .ok (.aload_n 0, 1) := by decide +kernel
theorem dX10_laysShape_93 : decode cX10_laysShape 93 = .ok (.getfield 124, 3) := by decide +kernel
theorem dX10_laysShape_96 : decode cX10_laysShape 96 = .ok (.iload_n 1, 1) := by decide +kernel
theorem dX10_laysShape_97 : decode cX10_laysShape 97 = .ok (.iload_n 2, 1) := by decide +kernel
theorem dX10_laysShape_98 : decode cX10_laysShape 98 = .ok (.iastore, 1) := by decide +kernel
theorem dX10_laysShape_99 : decode cX10_laysShape 99 = .ok (.iinc 1 1, 3) := by decide +kernel
theorem dX10_laysShape_102 : decode cX10_laysShape 102 = .ok (.iinc 3 1, 3) := by decide +kernel
theorem dX10_laysShape_105 : decode cX10_laysShape 105 = .ok (.goto (-64), 3) := by decide +kernel
theorem dX10_laysShape_108 : decode cX10_laysShape 108 = .ok (.iinc 2 1, 3) := by decide +kernel
theorem dX10_laysShape_111 : decode cX10_laysShape 111 = .ok (.goto (-80), 3) := by decide +kernel
theorem dX10_laysShape_114 : decode cX10_laysShape 114 = .ok (.return_, 1) := by decide +kernel
theorem dX10_shape_0 : decode cX10_shape 0 = .ok (.aload_n 0, 1) := by decide +kernel
theorem dX10_shape_1 : decode cX10_shape 1 = .ok (.iconst 0, 1) := by decide +kernel
theorem dX10_shape_2 : decode cX10_shape 2 = .ok (.putfield 1, 3) := by decide +kernel
theorem dX10_shape_5 : decode cX10_shape 5 = .ok (.aload_n 0, 1) := by decide +kernel
theorem dX10_shape_6 : decode cX10_shape 6 = .ok (.iload_n 1, 1) := by decide +kernel
theorem dX10_shape_7 : decode cX10_shape 7 = .ok (.invokevirtual 231, 3) := by decide +kernel
theorem dX10_shape_10 : decode cX10_shape 10 = .ok (.ifCond .ne 5, 3) := by decide +kernel
theorem dX10_shape_13 : decode cX10_shape 13 = .ok (.iconst (-1), 1) := by decide +kernel
theorem dX10_shape_14 : decode cX10_shape 14 = .ok (.ireturn, 1) := by decide +kernel
theorem dX10_shape_15 : decode cX10_shape 15 = .ok (.aload_n 0, 1) := by decide +kernel
theorem dX10_shape_16 : decode cX10_shape 16 = .ok (.invokevirtual 316, 3) := by decide +kernel
theorem dX10_shape_19 : decode cX10_shape 19 = .ok (.aload_n 0, 1) := by decide +kernel
theorem dX10_shape_20 : decode cX10_shape 20 = .ok (.getfield 124, 3) := by decide +kernel
theorem dX10_shape_23 : decode cX10_shape 23 = .ok (.iload_n 1, 1) := by decide +kernel
theorem dX10_shape_24 : decode cX10_shape 24 = .ok (.iaload, 1) := by decide +kernel
theorem dX10_shape_25 : decode cX10_shape 25 = .ok (.ireturn, 1) := by decide +kernel
theorem dX10_rowsFrom_0 : decode cX10_rowsFrom 0 = .ok (.iload_n 0, 1) := by decide +kernel
theorem dX10_rowsFrom_1 : decode cX10_rowsFrom 1 = .ok (.iload_n 2, 1) := by decide +kernel
theorem dX10_rowsFrom_2 : decode cX10_rowsFrom 2 = .ok (.if_icmp .ne 5, 3) := by decide +kernel
theorem dX10_rowsFrom_5 : decode cX10_rowsFrom 5 = .ok (.iconst 1, 1) := by decide +kernel
theorem dX10_rowsFrom_6 : decode cX10_rowsFrom 6 = .ok (.ireturn, 1) := by decide +kernel
theorem dX10_rowsFrom_7 : decode cX10_rowsFrom 7 = .ok (.iconst 0, 1) := by decide +kernel
theorem dX10_rowsFrom_8 : decode cX10_rowsFrom 8 = .ok (.istore_n 3, 1) := by decide +kernel
theorem dX10_rowsFrom_9 : decode cX10_rowsFrom 9 = .ok (.iload_n 1, 1) := by decide +kernel
theorem dX10_rowsFrom_10 : decode cX10_rowsFrom 10 = .ok (.istore 4, 2) := by decide +kernel
theorem dX10_rowsFrom_12 : decode cX10_rowsFrom 12 = .ok (.iload 4, 2) := by decide +kernel
theorem dX10_rowsFrom_14 : decode cX10_rowsFrom 14 = .ok (.iload_n 0, 1) := by decide +kernel
theorem dX10_rowsFrom_15 : decode cX10_rowsFrom 15 = .ok (.if_icmp .gt 21, 3) := by decide +kernel
theorem dX10_rowsFrom_18 : decode cX10_rowsFrom 18 = .ok (.iload_n 3, 1) := by decide +kernel
theorem dX10_rowsFrom_19 : decode cX10_rowsFrom 19 = .ok (.iload_n 0, 1) := by decide +kernel
theorem dX10_rowsFrom_20 : decode cX10_rowsFrom 20 = .ok (.iconst 1, 1) := by decide +kernel
theorem dX10_rowsFrom_21 : decode cX10_rowsFrom 21 = .ok (.iadd, 1) := by decide +kernel
theorem dX10_rowsFrom_22 : decode cX10_rowsFrom 22 = .ok (.iload 4, 2) := by decide +kernel
theorem dX10_rowsFrom_24 : decode cX10_rowsFrom 24 = .ok (.iload_n 2, 1) := by decide +kernel
theorem dX10_rowsFrom_25 : decode cX10_rowsFrom 25 = .ok (.invokestatic 319, 3) := by decide +kernel
theorem dX10_rowsFrom_28 : decode cX10_rowsFrom 28 = .ok (.iadd, 1) := by decide +kernel
theorem dX10_rowsFrom_29 : decode cX10_rowsFrom 29 = .ok (.istore_n 3, 1) := by decide +kernel
theorem dX10_rowsFrom_30 : decode cX10_rowsFrom 30 = .ok (.iinc 4 1, 3) := by decide +kernel
theorem dX10_rowsFrom_33 : decode cX10_rowsFrom 33 = .ok (.goto (-21), 3) := by decide +kernel
theorem dX10_rowsFrom_36 : decode cX10_rowsFrom 36 = .ok (.iload_n 3, 1) := by decide +kernel
theorem dX10_rowsFrom_37 : decode cX10_rowsFrom 37 = .ok (.ireturn, 1) := by decide +kernel
theorem dX10_rank_0 : decode cX10_rank 0 = .ok (.aload_n 0, 1) := by decide +kernel
theorem dX10_rank_1 : decode cX10_rank 1 = .ok (.iconst 0, 1) := by decide +kernel
theorem dX10_rank_2 : decode cX10_rank 2 = .ok (.putfield 1, 3) := by decide +kernel
theorem dX10_rank_5 : decode cX10_rank 5 = .ok (.aload_n 0, 1) := by decide +kernel
theorem dX10_rank_6 : decode cX10_rank 6 = .ok (.invokevirtual 316, 3) := by decide +kernel
theorem dX10_rank_9 : decode cX10_rank 9 = .ok (.iconst 0, 1) := by decide +kernel
theorem dX10_rank_10 : decode cX10_rank 10 = .ok (.istore_n 1, 1) := by decide +kernel
theorem dX10_rank_11 : decode cX10_rank 11 = .ok (.iconst 0, 1) := by decide +kernel
theorem dX10_rank_12 : decode cX10_rank 12 = .ok (.istore_n 2, 1) := by decide +kernel
theorem dX10_rank_13 : decode cX10_rank 13 = .ok (.iconst 0, 1) := by decide +kernel
theorem dX10_rank_14 : decode cX10_rank 14 = .ok (.istore_n 3, 1) := by decide +kernel
theorem dX10_rank_15 : decode cX10_rank 15 = .ok (.iload_n 3, 1) := by decide +kernel
theorem dX10_rank_16 : decode cX10_rank 16 = .ok (.aload_n 0, 1) := by decide +kernel
theorem dX10_rank_17 : decode cX10_rank 17 = .ok (.invokevirtual 228, 3) := by decide +kernel
theorem dX10_rank_20 : decode cX10_rank 20 = .ok (.if_icmp .ge 51, 3) := by decide +kernel
theorem dX10_rank_23 : decode cX10_rank 23 = .ok (.iload_n 2, 1) := by decide +kernel
theorem dX10_rank_24 : decode cX10_rank 24 = .ok (.istore 4, 2) := by decide +kernel
theorem dX10_rank_26 : decode cX10_rank 26 = .ok (.iload 4, 2) := by decide +kernel
theorem dX10_rank_28 : decode cX10_rank 28 = .ok (.aload_n 0, 1) := by decide +kernel
theorem dX10_rank_29 : decode cX10_rank 29 = .ok (.getfield 124, 3) := by decide +kernel
theorem dX10_rank_32 : decode cX10_rank 32 = .ok (.iload_n 3, 1) := by decide +kernel
theorem dX10_rank_33 : decode cX10_rank 33 = .ok (.iaload, 1) := by decide +kernel
theorem dX10_rank_34 : decode cX10_rank 34 = .ok (.if_icmp .ge 24, 3) := by decide +kernel
theorem dX10_rank_37 : decode cX10_rank 37 = .ok (.iload_n 1, 1) := by decide +kernel
theorem dX10_rank_38 : decode cX10_rank 38 = .ok (.iload_n 3, 1) := by decide +kernel
theorem dX10_rank_39 : decode cX10_rank 39 = .ok (.iconst 1, 1) := by decide +kernel
theorem dX10_rank_40 : decode cX10_rank 40 = .ok (.iadd, 1) := by decide +kernel
theorem dX10_rank_41 : decode cX10_rank 41 = .ok (.iload 4, 2) := by decide +kernel
theorem dX10_rank_43 : decode cX10_rank 43 = .ok (.aload_n 0, 1) := by decide +kernel
theorem dX10_rank_44 : decode cX10_rank 44 = .ok (.invokevirtual 228, 3) := by decide +kernel
theorem dX10_rank_47 : decode cX10_rank 47 = .ok (.invokestatic 319, 3) := by decide +kernel
theorem dX10_rank_50 : decode cX10_rank 50 = .ok (.iadd, 1) := by decide +kernel
theorem dX10_rank_51 : decode cX10_rank 51 = .ok (.istore_n 1, 1) := by decide +kernel
theorem dX10_rank_52 : decode cX10_rank 52 = .ok (.iinc 4 1, 3) := by decide +kernel
theorem dX10_rank_55 : decode cX10_rank 55 = .ok (.goto (-29), 3) := by decide +kernel
theorem dX10_rank_58 : decode cX10_rank 58 = .ok (.aload_n 0, 1) := by decide +kernel
theorem dX10_rank_59 : decode cX10_rank 59 = .ok (.getfield 124, 3) := by decide +kernel
theorem dX10_rank_62 : decode cX10_rank 62 = .ok (.iload_n 3, 1) := by decide +kernel
theorem dX10_rank_63 : decode cX10_rank 63 = .ok (.iaload, 1) := by decide +kernel
theorem dX10_rank_64 : decode cX10_rank 64 = .ok (.istore_n 2, 1) := by decide +kernel
theorem dX10_rank_65 : decode cX10_rank 65 = .ok (.iinc 3 1, 3) := by decide +kernel
theorem dX10_rank_68 : decode cX10_rank 68 = .ok (.goto (-53), 3) := by decide +kernel
theorem dX10_rank_71 : decode cX10_rank 71 = .ok (.iload_n 1, 1) := by decide +kernel
theorem dX10_rank_72 : decode cX10_rank 72 = .ok (.ireturn, 1) := by decide +kernel
theorem dX10_shapes_0 : decode cX10_shapes 0 = .ok (.aload_n 0, 1) := by decide +kernel
theorem dX10_shapes_1 : decode cX10_shapes 1 = .ok (.iconst 0, 1) := by decide +kernel
theorem dX10_shapes_2 : decode cX10_shapes 2 = .ok (.putfield 1, 3) := by decide +kernel
theorem dX10_shapes_5 : decode cX10_shapes 5 = .ok (.iload_n 1, 1) := by decide +kernel
theorem dX10_shapes_6 : decode cX10_shapes 6 = .ok (.iconst 0, 1) := by decide +kernel
theorem dX10_shapes_7 : decode cX10_shapes 7 = .ok (.bipush 12, 2) := by decide +kernel
theorem dX10_shapes_9 : decode cX10_shapes 9 = .ok (.invokestatic 224, 3) := by decide +kernel
theorem dX10_shapes_12 : decode cX10_shapes 12 = .ok (.ifCond .eq 12, 3) := by decide +kernel
theorem dX10_shapes_15 : decode cX10_shapes 15 = .ok (.iconst 0, 1) := by decide +kernel
theorem dX10_shapes_16 : decode cX10_shapes 16 = .ok (.iconst 0, 1) := by decide +kernel
theorem dX10_shapes_17 : decode cX10_shapes 17 = .ok (.iload_n 1, 1) := by decide +kernel
theorem dX10_shapes_18 : decode cX10_shapes 18 = .ok (.invokestatic 319, 3) := by decide +kernel
theorem dX10_shapes_21 : decode cX10_shapes 21 = .ok (.goto 4, 3) := by decide +kernel
theorem dX10_shapes_24 : decode cX10_shapes 24 = .ok (.iconst (-1), 1) := by decide +kernel
theorem dX10_shapes_25 : decode cX10_shapes 25 = .ok (.ireturn, 1) := by decide +kernel
theorem dX10_make_0 : decode cX10_make 0 = .ok (.aload_n 0, 1) := by decide +kernel
theorem dX10_make_1 : decode cX10_make 1 = .ok (.iconst 0, 1) := by decide +kernel
theorem dX10_make_2 : decode cX10_make 2 = .ok (.putfield 1, 3) := by decide +kernel
theorem dX10_make_5 : decode cX10_make 5 = .ok (.iload_n 1, 1) := by decide +kernel
theorem dX10_make_6 : decode cX10_make 6 = .ok (.iconst 1, 1) := by decide +kernel
theorem dX10_make_7 : decode cX10_make 7 = .ok (.bipush 8, 2) := by decide +kernel
theorem dX10_make_9 : decode cX10_make 9 = .ok (.invokestatic 224, 3) := by decide +kernel
theorem dX10_make_12 : decode cX10_make 12 = .ok (.ifCond .eq 17, 3) := by decide +kernel
theorem dX10_make_15 : decode cX10_make 15 = .ok (.iload_n 2, 1) := by decide +kernel
theorem dX10_make_16 : decode cX10_make 16 = .ok (.ifCond .lt 13, 3) := by decide +kernel
theorem dX10_make_19 : decode cX10_make 19 = .ok (.iload_n 2, 1) := by decide +kernel
theorem dX10_make_20 : decode cX10_make 20 = .ok (.iconst 0, 1) := by decide +kernel
theorem dX10_make_21 : decode cX10_make 21 = .ok (.iconst 0, 1) := by decide +kernel
theorem dX10_make_22 : decode cX10_make 22 = .ok (.iload_n 1, 1) := by decide +kernel
theorem dX10_make_23 : decode cX10_make 23 = .ok (.invokestatic 319, 3) := by decide +kernel
theorem dX10_make_26 : decode cX10_make 26 = .ok (.if_icmp .lt 5, 3) := by decide +kernel
theorem dX10_make_29 : decode cX10_make 29 = .ok (.iconst (-1), 1) := by decide +kernel
theorem dX10_make_30 : decode cX10_make 30 = .ok (.ireturn, 1) := by decide +kernel
theorem dX10_make_31 : decode cX10_make 31 = .ok (.iload_n 2, 1) := by decide +kernel
theorem dX10_make_32 : decode cX10_make 32 = .ok (.istore_n 3, 1) := by decide +kernel
theorem dX10_make_33 : decode cX10_make 33 = .ok (.iconst 0, 1) := by decide +kernel
theorem dX10_make_34 : decode cX10_make 34 = .ok (.istore 4, 2) := by decide +kernel
theorem dX10_make_36 : decode cX10_make 36 = .ok (.iconst 0, 1) := by decide +kernel
theorem dX10_make_37 : decode cX10_make 37 = .ok (.istore 5, 2) := by decide +kernel
theorem dX10_make_39 : decode cX10_make 39 = .ok (.iload 5, 2) := by decide +kernel
theorem dX10_make_41 : decode cX10_make 41 = .ok (.iload_n 1, 1) := by decide +kernel
theorem dX10_make_42 : decode cX10_make 42 = .ok (.if_icmp .ge 51, 3) := by decide +kernel
theorem dX10_make_45 : decode cX10_make 45 = .ok (.iload_n 3, 1) := by decide +kernel
theorem dX10_make_46 : decode cX10_make 46 = .ok (.iload 5, 2) := by decide +kernel
theorem dX10_make_48 : decode cX10_make 48 = .ok (.iconst 1, 1) := by decide +kernel
theorem dX10_make_49 : decode cX10_make 49 = .ok (.iadd, 1) := by decide +kernel
theorem dX10_make_50 : decode cX10_make 50 = .ok (.iload 4, 2) := by decide +kernel
theorem dX10_make_52 : decode cX10_make 52 = .ok (.iload_n 1, 1) := by decide +kernel
theorem dX10_make_53 : decode cX10_make 53 = .ok (.invokestatic 319, 3) := by decide +kernel
theorem dX10_make_56 : decode cX10_make 56 = .ok (.if_icmp .lt 22, 3) := by decide +kernel
theorem dX10_make_59 : decode cX10_make 59 = .ok (.iload_n 3, 1) := by decide +kernel
theorem dX10_make_60 : decode cX10_make 60 = .ok (.iload 5, 2) := by decide +kernel
theorem dX10_make_62 : decode cX10_make 62 = .ok (.iconst 1, 1) := by decide +kernel
theorem dX10_make_63 : decode cX10_make 63 = .ok (.iadd, 1) := by decide +kernel
theorem dX10_make_64 : decode cX10_make 64 = .ok (.iload 4, 2) := by decide +kernel
theorem dX10_make_66 : decode cX10_make 66 = .ok (.iload_n 1, 1) := by decide +kernel
theorem dX10_make_67 : decode cX10_make 67 = .ok (.invokestatic 319, 3) := by decide +kernel
theorem dX10_make_70 : decode cX10_make 70 = .ok (.isub, 1) := by decide +kernel
theorem dX10_make_71 : decode cX10_make 71 = .ok (.istore_n 3, 1) := by decide +kernel
theorem dX10_make_72 : decode cX10_make 72 = .ok (.iinc 4 1, 3) := by decide +kernel
theorem dX10_make_75 : decode cX10_make 75 = .ok (.goto (-30), 3) := by decide +kernel
theorem dX10_make_78 : decode cX10_make 78 = .ok (.aload_n 0, 1) := by decide +kernel
theorem dX10_make_79 : decode cX10_make 79 = .ok (.getfield 124, 3) := by decide +kernel
theorem dX10_make_82 : decode cX10_make 82 = .ok (.iload 5, 2) := by decide +kernel
theorem dX10_make_84 : decode cX10_make 84 = .ok (.iload 4, 2) := by decide +kernel
theorem dX10_make_86 : decode cX10_make 86 = .ok (.iastore, 1) := by decide +kernel
theorem dX10_make_87 : decode cX10_make 87 = .ok (.iinc 5 1, 3) := by decide +kernel
theorem dX10_make_90 : decode cX10_make 90 = .ok (.goto (-51), 3) := by decide +kernel
theorem dX10_make_93 : decode cX10_make 93 = .ok (.aload_n 0, 1) := by decide +kernel
theorem dX10_make_94 : decode cX10_make 94 = .ok (.invokevirtual 250, 3) := by decide +kernel
theorem dX10_make_97 : decode cX10_make 97 = .ok (.iconst 0, 1) := by decide +kernel
theorem dX10_make_98 : decode cX10_make 98 = .ok (.istore 5, 2) := by decide +kernel
theorem dX10_make_100 : decode cX10_make 100 = .ok (.iload 5, 2) := by decide +kernel
theorem dX10_make_102 : decode cX10_make 102 = .ok (.bipush 86, 2) := by decide +kernel
theorem dX10_make_104 : decode cX10_make 104 = .ok (.if_icmp .ge 17, 3) := by decide +kernel
theorem dX10_make_107 : decode cX10_make 107 = .ok (.aload_n 0, 1) := by decide +kernel
theorem dX10_make_108 : decode cX10_make 108 = .ok (.getfield 74, 3) := by decide +kernel
theorem dX10_make_111 : decode cX10_make 111 = .ok (.iload 5, 2) := by decide +kernel
theorem dX10_make_113 : decode cX10_make 113 = .ok (.iconst 0, 1) := by decide +kernel
theorem dX10_make_114 : decode cX10_make 114 = .ok (.iastore, 1) := by decide +kernel
theorem dX10_make_115 : decode cX10_make 115 = .ok (.iinc 5 1, 3) := by decide +kernel
theorem dX10_make_118 : decode cX10_make 118 = .ok (.goto (-18), 3) := by decide +kernel
theorem dX10_make_121 : decode cX10_make 121 = .ok (.aload_n 0, 1) := by decide +kernel
theorem dX10_make_122 : decode cX10_make 122 = .ok (.getfield 74, 3) := by decide +kernel
theorem dX10_make_125 : decode cX10_make 125 = .ok (.iconst 0, 1) := by decide +kernel
theorem dX10_make_126 : decode cX10_make 126 = .ok (.iload_n 1, 1) := by decide +kernel
theorem dX10_make_127 : decode cX10_make 127 = .ok (.iastore, 1) := by decide +kernel
theorem dX10_make_128 : decode cX10_make 128 = .ok (.iconst 0, 1) := by decide +kernel
theorem dX10_make_129 : decode cX10_make 129 = .ok (.istore 5, 2) := by decide +kernel
theorem dX10_make_131 : decode cX10_make 131 = .ok (.iload 5, 2) := by decide +kernel
theorem dX10_make_133 : decode cX10_make 133 = .ok (.iload_n 1, 1) := by decide +kernel
theorem dX10_make_134 : decode cX10_make 134 = .ok (.if_icmp .ge 55, 3) := by decide +kernel
theorem dX10_make_137 : decode cX10_make 137 = .ok (.iload 5, 2) := by decide +kernel
theorem dX10_make_139 : decode cX10_make 139 = .ok (.iconst 1, 1) := by decide +kernel
theorem dX10_make_140 : decode cX10_make 140 = .ok (.iadd, 1) := by decide +kernel
theorem dX10_make_141 : decode cX10_make 141 = .ok (.istore 6, 2) := by decide +kernel
theorem dX10_make_143 : decode cX10_make 143 = .ok (.iload 6, 2) := by decide +kernel
theorem dX10_make_145 : decode cX10_make 145 = .ok (.iload_n 1, 1) := by decide +kernel
theorem dX10_make_146 : decode cX10_make 146 = .ok (.if_icmp .ge 37, 3) := by decide +kernel
theorem dX10_make_149 : decode cX10_make 149 = .ok (.aload_n 0, 1) := by decide +kernel
theorem dX10_make_150 : decode cX10_make 150 = .ok (.getfield 74, 3) := by decide +kernel
theorem dX10_make_153 : decode cX10_make 153 = .ok (.iload 5, 2) := by decide +kernel
theorem dX10_make_155 : decode cX10_make 155 = .ok (.aload_n 0, 1) := by decide +kernel
theorem dX10_make_156 : decode cX10_make 156 = .ok (.getfield 124, 3) := by decide +kernel
theorem dX10_make_159 : decode cX10_make 159 = .ok (.iload 6, 2) := by decide +kernel
theorem dX10_make_161 : decode cX10_make 161 = .ok (.iaload, 1) := by decide +kernel
theorem dX10_make_162 : decode cX10_make 162 = .ok (.if_icmp .ge 7, 3) := by decide +kernel
theorem dX10_make_165 : decode cX10_make 165 = .ok (.iconst 0, 1) := by decide +kernel
theorem dX10_make_166 : decode cX10_make 166 = .ok (.goto 4, 3) := by decide +kernel
theorem dX10_make_169 : decode cX10_make 169 = .ok (.iconst 1, 1) := by decide +kernel
theorem dX10_make_170 : decode cX10_make 170 = .ok (.iload 5, 2) := by decide +kernel
theorem dX10_make_172 : decode cX10_make 172 = .ok (.iload 6, 2) := by decide +kernel
theorem dX10_make_174 : decode cX10_make 174 = .ok (.invokestatic 153, 3) := by decide +kernel
theorem dX10_make_177 : decode cX10_make 177 = .ok (.iinc 6 1, 3) := by decide +kernel
theorem dX10_make_180 : decode cX10_make 180 = .ok (.goto (-37), 3) := by decide +kernel
theorem dX10_make_183 : decode cX10_make 183 = .ok (.iinc 5 1, 3) := by decide +kernel
theorem dX10_make_186 : decode cX10_make 186 = .ok (.goto (-55), 3) := by decide +kernel
theorem dX10_make_189 : decode cX10_make 189 = .ok (.aload_n 0, 1) := by decide +kernel
theorem dX10_make_190 : decode cX10_make 190 = .ok (.invokevirtual 237, 3) := by decide +kernel
theorem dX10_make_193 : decode cX10_make 193 = .ok (.ireturn, 1) := by decide +kernel
theorem dX10_finish_0 : decode cX10_finish 0 = .ok (.aload_n 0, 1) := by decide +kernel
theorem dX10_finish_1 : decode cX10_finish 1 = .ok (.iconst 0, 1) := by decide +kernel
theorem dX10_finish_2 : decode cX10_finish 2 = .ok (.putfield 1, 3) := by decide +kernel
theorem dX10_finish_5 : decode cX10_finish 5 = .ok (.aload_n 0, 1) := by decide +kernel
theorem dX10_finish_6 : decode cX10_finish 6 = .ok (.getfield 74, 3) := by decide +kernel
theorem dX10_finish_9 : decode cX10_finish 9 = .ok (.iconst 0, 1) := by decide +kernel
theorem dX10_finish_10 : decode cX10_finish 10 = .ok (.aload_n 0, 1) := by decide +kernel
theorem dX10_finish_11 : decode cX10_finish 11 = .ok (.getfield 86, 3) := by decide +kernel
theorem dX10_finish_14 : decode cX10_finish 14 = .ok (.iconst 0, 1) := by decide +kernel
theorem dX10_finish_15 : decode cX10_finish 15 = .ok (.invokestatic 163, 3) := by decide +kernel
theorem dX10_finish_18 : decode cX10_finish 18 = .ok (.iconst 0, 1) := by decide +kernel
theorem dX10_finish_19 : decode cX10_finish 19 = .ok (.istore_n 1, 1) := by decide +kernel
theorem dX10_finish_20 : decode cX10_finish 20 = .ok (.iconst 0, 1) := by decide +kernel
theorem dX10_finish_21 : decode cX10_finish 21 = .ok (.istore_n 2, 1) := by decide +kernel
theorem dX10_finish_22 : decode cX10_finish 22 = .ok (.iload_n 2, 1) := by decide +kernel
theorem dX10_finish_23 : decode cX10_finish 23 = .ok (.aload_n 0, 1) := by decide +kernel
theorem dX10_finish_24 : decode cX10_finish 24 = .ok (.invokevirtual 228, 3) := by decide +kernel
theorem dX10_finish_27 : decode cX10_finish 27 = .ok (.if_icmp .ge 110, 3) := by decide +kernel
theorem dX10_finish_30 : decode cX10_finish 30 = .ok (.iload_n 2, 1) := by decide +kernel
theorem dX10_finish_31 : decode cX10_finish 31 = .ok (.iconst 1, 1) := by decide +kernel
theorem dX10_finish_32 : decode cX10_finish 32 = .ok (.iadd, 1) := by decide +kernel
theorem dX10_finish_33 : decode cX10_finish 33 = .ok (.istore_n 3, 1) := by decide +kernel
theorem dX10_finish_34 : decode cX10_finish 34 = .ok (.iload_n 3, 1) := by decide +kernel
theorem dX10_finish_35 : decode cX10_finish 35 = .ok (.aload_n 0, 1) := by decide +kernel
theorem dX10_finish_36 : decode cX10_finish 36 = .ok (.invokevirtual 228, 3) := by decide +kernel
theorem dX10_finish_39 : decode cX10_finish 39 = .ok (.if_icmp .ge 92, 3) := by decide +kernel
theorem dX10_finish_42 : decode cX10_finish 42 = .ok (.aload_n 0, 1) := by decide +kernel
theorem dX10_finish_43 : decode cX10_finish 43 = .ok (.getfield 74, 3) := by decide +kernel
theorem dX10_finish_46 : decode cX10_finish 46 = .ok (.iload_n 2, 1) := by decide +kernel
theorem dX10_finish_47 : decode cX10_finish 47 = .ok (.iload_n 3, 1) := by decide +kernel
theorem dX10_finish_48 : decode cX10_finish 48 = .ok (.invokestatic 142, 3) := by decide +kernel
theorem dX10_finish_51 : decode cX10_finish 51 = .ok (.iconst (-1), 1) := by decide +kernel
theorem dX10_finish_52 : decode cX10_finish 52 = .ok (.if_icmp .eq 6, 3) := by decide +kernel
theorem dX10_finish_55 : decode cX10_finish 55 = .ok (.goto 70, 3) := by decide +kernel
theorem dX10_finish_58 : decode cX10_finish 58 = .ok (.aload_n 0, 1) := by decide +kernel
theorem dX10_finish_59 : decode cX10_finish 59 = .ok (.aload_n 0, 1) := by decide +kernel
theorem dX10_finish_60 : decode cX10_finish 60 = .ok (.getfield 74, 3) := by decide +kernel
theorem dX10_finish_63 : decode cX10_finish 63 = .ok (.iconst 0, 1) := by decide +kernel
theorem dX10_finish_64 : decode cX10_finish 64 = .ok (.iload_n 2, 1) := by decide +kernel
theorem dX10_finish_65 : decode cX10_finish 65 = .ok (.iload_n 3, 1) := by decide +kernel
theorem dX10_finish_66 : decode cX10_finish 66 = .ok (.invokevirtual 270, 3) := by decide +kernel
theorem dX10_finish_69 : decode cX10_finish 69 = .ok (.ifCond .eq 16, 3) := by decide +kernel
theorem dX10_finish_72 : decode cX10_finish 72 = .ok (.aload_n 0, 1) := by decide +kernel
theorem dX10_finish_73 : decode cX10_finish 73 = .ok (.getfield 74, 3) := by decide +kernel
theorem dX10_finish_76 : decode cX10_finish 76 = .ok (.iconst 0, 1) := by decide +kernel
theorem dX10_finish_77 : decode cX10_finish 77 = .ok (.iload_n 2, 1) := by decide +kernel
theorem dX10_finish_78 : decode cX10_finish 78 = .ok (.iload_n 3, 1) := by decide +kernel
theorem dX10_finish_79 : decode cX10_finish 79 = .ok (.invokestatic 153, 3) := by decide +kernel
theorem dX10_finish_82 : decode cX10_finish 82 = .ok (.goto 40, 3) := by decide +kernel
theorem dX10_finish_85 : decode cX10_finish 85 = .ok (.aload_n 0, 1) := by decide +kernel
theorem dX10_finish_86 : decode cX10_finish 86 = .ok (.aload_n 0, 1) := by decide +kernel
theorem dX10_finish_87 : decode cX10_finish 87 = .ok (.getfield 74, 3) := by decide +kernel
theorem dX10_finish_90 : decode cX10_finish 90 = .ok (.iconst 0, 1) := by decide +kernel
theorem dX10_finish_91 : decode cX10_finish 91 = .ok (.iload_n 3, 1) := by decide +kernel
theorem dX10_finish_92 : decode cX10_finish 92 = .ok (.iload_n 2, 1) := by decide +kernel
theorem dX10_finish_93 : decode cX10_finish 93 = .ok (.invokevirtual 270, 3) := by decide +kernel
theorem dX10_finish_96 : decode cX10_finish 96 = .ok (.ifCond .eq 16, 3) := by decide +kernel
theorem dX10_finish_99 : decode cX10_finish 99 = .ok (.aload_n 0, 1) := by decide +kernel
theorem dX10_finish_100 : decode cX10_finish 100 = .ok (.getfield 74, 3) := by decide +kernel
theorem dX10_finish_103 : decode cX10_finish 103 = .ok (.iconst 0, 1) := by decide +kernel
theorem dX10_finish_104 : decode cX10_finish 104 = .ok (.iload_n 3, 1) := by decide +kernel
theorem dX10_finish_105 : decode cX10_finish 105 = .ok (.iload_n 2, 1) := by decide +kernel
theorem dX10_finish_106 : decode cX10_finish 106 = .ok (.invokestatic 153, 3) := by decide +kernel
theorem dX10_finish_109 : decode cX10_finish 109 = .ok (.goto 13, 3) := by decide +kernel
theorem dX10_finish_112 : decode cX10_finish 112 = .ok (.aload_n 0, 1) := by decide +kernel
theorem dX10_finish_113 : decode cX10_finish 113 = .ok (.getfield 74, 3) := by decide +kernel
theorem dX10_finish_116 : decode cX10_finish 116 = .ok (.iconst 1, 1) := by decide +kernel
theorem dX10_finish_117 : decode cX10_finish 117 = .ok (.iload_n 2, 1) := by decide +kernel
theorem dX10_finish_118 : decode cX10_finish 118 = .ok (.iload_n 3, 1) := by decide +kernel
theorem dX10_finish_119 : decode cX10_finish 119 = .ok (.invokestatic 153, 3) := by decide +kernel
theorem dX10_finish_122 : decode cX10_finish 122 = .ok (.iinc 1 1, 3) := by decide +kernel
theorem dX10_finish_125 : decode cX10_finish 125 = .ok (.iinc 3 1, 3) := by decide +kernel
theorem dX10_finish_128 : decode cX10_finish 128 = .ok (.goto (-94), 3) := by decide +kernel
theorem dX10_finish_131 : decode cX10_finish 131 = .ok (.iinc 2 1, 3) := by decide +kernel
theorem dX10_finish_134 : decode cX10_finish 134 = .ok (.goto (-112), 3) := by decide +kernel
theorem dX10_finish_137 : decode cX10_finish 137 = .ok (.iload_n 1, 1) := by decide +kernel
theorem dX10_finish_138 : decode cX10_finish 138 = .ok (.ifCond .le 7, 3) := by decide +kernel
theorem dX10_finish_141 : decode cX10_finish 141 = .ok (.aload_n 0, 1) := by decide +kernel
theorem dX10_finish_142 : decode cX10_finish 142 = .ok (.invokevirtual 323, 3) := by decide +kernel
theorem dX10_finish_145 : decode cX10_finish 145 = .ok (.iload_n 1, 1) := by decide +kernel
theorem dX10_finish_146 : decode cX10_finish 146 = .ok (.ireturn, 1) := by decide +kernel
theorem dX10_grow_0 : decode cX10_grow 0 = .ok (.aload_n 0, 1) := by decide +kernel
theorem dX10_grow_1 : decode cX10_grow 1 = .ok (.iconst 0, 1) := by decide +kernel
theorem dX10_grow_2 : decode cX10_grow 2 = .ok (.putfield 1, 3) := by decide +kernel
theorem dX10_grow_5 : decode cX10_grow 5 = .ok (.aload_n 0, 1) := by decide +kernel
theorem dX10_grow_6 : decode cX10_grow 6 = .ok (.invokevirtual 228, 3) := by decide +kernel
theorem dX10_grow_9 : decode cX10_grow 9 = .ok (.bipush 8, 2) := by decide +kernel
theorem dX10_grow_11 : decode cX10_grow 11 = .ok (.if_icmp .ne 5, 3) := by decide +kernel
theorem dX10_grow_14 : decode cX10_grow 14 = .ok (.iconst (-1), 1) := by decide +kernel
theorem dX10_grow_15 : decode cX10_grow 15 = .ok (.ireturn, 1) := by decide +kernel
theorem dX10_grow_16 : decode cX10_grow 16 = .ok (.aload_n 0, 1) := by decide +kernel
theorem dX10_grow_17 : decode cX10_grow 17 = .ok (.invokevirtual 250, 3) := by decide +kernel
theorem dX10_grow_20 : decode cX10_grow 20 = .ok (.aload_n 0, 1) := by decide +kernel
theorem dX10_grow_21 : decode cX10_grow 21 = .ok (.getfield 74, 3) := by decide +kernel
theorem dX10_grow_24 : decode cX10_grow 24 = .ok (.iconst 0, 1) := by decide +kernel
theorem dX10_grow_25 : decode cX10_grow 25 = .ok (.dup2, 1) := by decide +kernel
theorem dX10_grow_26 : decode cX10_grow 26 = .ok (.iaload, 1) := by decide +kernel
theorem dX10_grow_27 : decode cX10_grow 27 = .ok (.iconst 1, 1) := by decide +kernel
theorem dX10_grow_28 : decode cX10_grow 28 = .ok (.iadd, 1) := by decide +kernel
theorem dX10_grow_29 : decode cX10_grow 29 = .ok (.iastore, 1) := by decide +kernel
theorem dX10_grow_30 : decode cX10_grow 30 = .ok (.aload_n 0, 1) := by decide +kernel
theorem dX10_grow_31 : decode cX10_grow 31 = .ok (.invokevirtual 228, 3) := by decide +kernel
theorem dX10_grow_34 : decode cX10_grow 34 = .ok (.iconst 1, 1) := by decide +kernel
theorem dX10_grow_35 : decode cX10_grow 35 = .ok (.isub, 1) := by decide +kernel
theorem dX10_grow_36 : decode cX10_grow 36 = .ok (.ireturn, 1) := by decide +kernel
theorem dX10_drop_0 : decode cX10_drop 0 = .ok (.aload_n 0, 1) := by decide +kernel
theorem dX10_drop_1 : decode cX10_drop 1 = .ok (.iconst 0, 1) := by decide +kernel
theorem dX10_drop_2 : decode cX10_drop 2 = .ok (.putfield 1, 3) := by decide +kernel
theorem dX10_drop_5 : decode cX10_drop 5 = .ok (.aload_n 0, 1) := by decide +kernel
theorem dX10_drop_6 : decode cX10_drop 6 = .ok (.iload_n 1, 1) := by decide +kernel
theorem dX10_drop_7 : decode cX10_drop 7 = .ok (.invokevirtual 231, 3) := by decide +kernel
theorem dX10_drop_10 : decode cX10_drop 10 = .ok (.ifCond .ne 5, 3) := by decide +kernel
theorem dX10_drop_13 : decode cX10_drop 13 = .ok (.iconst (-1), 1) := by decide +kernel
theorem dX10_drop_14 : decode cX10_drop 14 = .ok (.ireturn, 1) := by decide +kernel
theorem dX10_drop_15 : decode cX10_drop 15 = .ok (.aload_n 0, 1) := by decide +kernel
theorem dX10_drop_16 : decode cX10_drop 16 = .ok (.invokevirtual 250, 3) := by decide +kernel
theorem dX10_drop_19 : decode cX10_drop 19 = .ok (.aload_n 0, 1) := by decide +kernel
theorem dX10_drop_20 : decode cX10_drop 20 = .ok (.invokevirtual 237, 3) := by decide +kernel
theorem dX10_drop_23 : decode cX10_drop 23 = .ok (.iconst 1, 1) := by decide +kernel
theorem dX10_drop_24 : decode cX10_drop 24 = .ok (.isub, 1) := by decide +kernel
theorem dX10_drop_25 : decode cX10_drop 25 = .ok (.istore_n 2, 1) := by decide +kernel
theorem dX10_drop_26 : decode cX10_drop 26 = .ok (.iload_n 2, 1) := by decide +kernel
theorem dX10_drop_27 : decode cX10_drop 27 = .ok (.ifCond .lt 43, 3) := by decide +kernel
theorem dX10_drop_30 : decode cX10_drop 30 = .ok (.aload_n 0, 1) := by decide +kernel
theorem dX10_drop_31 : decode cX10_drop 31 = .ok (.getfield 74, 3) := by decide +kernel
theorem dX10_drop_34 : decode cX10_drop 34 = .ok (.bipush 30, 2) := by decide +kernel
theorem dX10_drop_36 : decode cX10_drop 36 = .ok (.iload_n 2, 1) := by decide +kernel
theorem dX10_drop_37 : decode cX10_drop 37 = .ok (.iadd, 1) := by decide +kernel
theorem dX10_drop_38 : decode cX10_drop 38 = .ok (.iaload, 1) := by decide +kernel
theorem dX10_drop_39 : decode cX10_drop 39 = .ok (.iload_n 1, 1) := by decide +kernel
theorem dX10_drop_40 : decode cX10_drop 40 = .ok (.if_icmp .eq 16, 3) := by decide +kernel
theorem dX10_drop_43 : decode cX10_drop 43 = .ok (.aload_n 0, 1) := by decide +kernel
theorem dX10_drop_44 : decode cX10_drop 44 = .ok (.getfield 74, 3) := by decide +kernel
theorem dX10_drop_47 : decode cX10_drop 47 = .ok (.bipush 58, 2) := by decide +kernel
theorem dX10_drop_49 : decode cX10_drop 49 = .ok (.iload_n 2, 1) := by decide +kernel
theorem dX10_drop_50 : decode cX10_drop 50 = .ok (.iadd, 1) := by decide +kernel
theorem dX10_drop_51 : decode cX10_drop 51 = .ok (.iaload, 1) := by decide +kernel
theorem dX10_drop_52 : decode cX10_drop 52 = .ok (.iload_n 1, 1) := by decide +kernel
theorem dX10_drop_53 : decode cX10_drop 53 = .ok (.if_icmp .ne 11, 3) := by decide +kernel
theorem dX10_drop_56 : decode cX10_drop 56 = .ok (.aload_n 0, 1) := by decide +kernel
theorem dX10_drop_57 : decode cX10_drop 57 = .ok (.getfield 74, 3) := by decide +kernel
theorem dX10_drop_60 : decode cX10_drop 60 = .ok (.iload_n 2, 1) := by decide +kernel
theorem dX10_drop_61 : decode cX10_drop 61 = .ok (.invokestatic 256, 3) := by decide +kernel
theorem dX10_drop_64 : decode cX10_drop 64 = .ok (.iinc 2 (-1), 3) := by decide +kernel
theorem dX10_drop_67 : decode cX10_drop 67 = .ok (.goto (-41), 3) := by decide +kernel
theorem dX10_drop_70 : decode cX10_drop 70 = .ok (.iconst 0, 1) := by decide +kernel
theorem dX10_drop_71 : decode cX10_drop 71 = .ok (.istore_n 2, 1) := by decide +kernel
theorem dX10_drop_72 : decode cX10_drop 72 = .ok (.iload_n 2, 1) := by decide +kernel
theorem dX10_drop_73 : decode cX10_drop 73 = .ok (.aload_n 0, 1) := by decide +kernel
theorem dX10_drop_74 : decode cX10_drop 74 = .ok (.invokevirtual 237, 3) := by decide +kernel
theorem dX10_drop_77 : decode cX10_drop 77 = .ok (.if_icmp .ge 61, 3) := by decide +kernel
theorem dX10_drop_80 : decode cX10_drop 80 = .ok (.aload_n 0, 1) := by decide +kernel
theorem dX10_drop_81 : decode cX10_drop 81 = .ok (.getfield 74, 3) := by decide +kernel
theorem dX10_drop_84 : decode cX10_drop 84 = .ok (.bipush 30, 2) := by decide +kernel
theorem dX10_drop_86 : decode cX10_drop 86 = .ok (.iload_n 2, 1) := by decide +kernel
theorem dX10_drop_87 : decode cX10_drop 87 = .ok (.iadd, 1) := by decide +kernel
theorem dX10_drop_88 : decode cX10_drop 88 = .ok (.iaload, 1) := by decide +kernel
theorem dX10_drop_89 : decode cX10_drop 89 = .ok (.iload_n 1, 1) := by decide +kernel
theorem dX10_drop_90 : decode cX10_drop 90 = .ok (.if_icmp .le 16, 3) := by decide +kernel
theorem dX10_drop_93 : decode cX10_drop 93 = .ok (.aload_n 0, 1) := by decide +kernel
theorem dX10_drop_94 : decode cX10_drop 94 = .ok (.getfield 74, 3) := by decide +kernel
theorem dX10_drop_97 : decode cX10_drop 97 = .ok (.bipush 30, 2) := by decide +kernel
theorem dX10_drop_99 : decode cX10_drop 99 = .ok (.iload_n 2, 1) := by decide +kernel
theorem dX10_drop_100 : decode cX10_drop 100 = .ok (.iadd, 1) := by decide +kernel
theorem dX10_drop_101 : decode cX10_drop 101 = .ok (.dup2, 1) := by decide +kernel
theorem dX10_drop_102 : decode cX10_drop 102 = .ok (.iaload, 1) := by decide +kernel
theorem dX10_drop_103 : decode cX10_drop 103 = .ok (.iconst 1, 1) := by decide +kernel
theorem dX10_drop_104 : decode cX10_drop 104 = .ok (.isub, 1) := by decide +kernel
theorem dX10_drop_105 : decode cX10_drop 105 = .ok (.iastore, 1) := by decide +kernel
theorem dX10_drop_106 : decode cX10_drop 106 = .ok (.aload_n 0, 1) := by decide +kernel
theorem dX10_drop_107 : decode cX10_drop 107 = .ok (.getfield 74, 3) := by decide +kernel
theorem dX10_drop_110 : decode cX10_drop 110 = .ok (.bipush 58, 2) := by decide +kernel
theorem dX10_drop_112 : decode cX10_drop 112 = .ok (.iload_n 2, 1) := by decide +kernel
theorem dX10_drop_113 : decode cX10_drop 113 = .ok (.iadd, 1) := by decide +kernel
theorem dX10_drop_114 : decode cX10_drop 114 = .ok (.iaload, 1) := by decide +kernel
theorem dX10_drop_115 : decode cX10_drop 115 = .ok (.iload_n 1, 1) := by decide +kernel
theorem dX10_drop_116 : decode cX10_drop 116 = .ok (.if_icmp .le 16, 3) := by decide +kernel
theorem dX10_drop_119 : decode cX10_drop 119 = .ok (.aload_n 0, 1) := by decide +kernel
theorem dX10_drop_120 : decode cX10_drop 120 = .ok (.getfield 74, 3) := by decide +kernel
theorem dX10_drop_123 : decode cX10_drop 123 = .ok (.bipush 58, 2) := by decide +kernel
theorem dX10_drop_125 : decode cX10_drop 125 = .ok (.iload_n 2, 1) := by decide +kernel
theorem dX10_drop_126 : decode cX10_drop 126 = .ok (.iadd, 1) := by decide +kernel
theorem dX10_drop_127 : decode cX10_drop 127 = .ok (.dup2, 1) := by decide +kernel
theorem dX10_drop_128 : decode cX10_drop 128 = .ok (.iaload, 1) := by decide +kernel
theorem dX10_drop_129 : decode cX10_drop 129 = .ok (.iconst 1, 1) := by decide +kernel
theorem dX10_drop_130 : decode cX10_drop 130 = .ok (.isub, 1) := by decide +kernel
theorem dX10_drop_131 : decode cX10_drop 131 = .ok (.iastore, 1) := by decide +kernel
theorem dX10_drop_132 : decode cX10_drop 132 = .ok (.iinc 2 1, 3) := by decide +kernel
theorem dX10_drop_135 : decode cX10_drop 135 = .ok (.goto (-63), 3) := by decide +kernel
theorem dX10_drop_138 : decode cX10_drop 138 = .ok (.aload_n 0, 1) := by decide +kernel
theorem dX10_drop_139 : decode cX10_drop 139 = .ok (.getfield 74, 3) := by decide +kernel
theorem dX10_drop_142 : decode cX10_drop 142 = .ok (.iconst 0, 1) := by decide +kernel
theorem dX10_drop_143 : decode cX10_drop 143 = .ok (.dup2, 1) := by decide +kernel
theorem dX10_drop_144 : decode cX10_drop 144 = .ok (.iaload, 1) := by decide +kernel
theorem dX10_drop_145 : decode cX10_drop 145 = .ok (.iconst 1, 1) := by decide +kernel
theorem dX10_drop_146 : decode cX10_drop 146 = .ok (.isub, 1) := by decide +kernel
theorem dX10_drop_147 : decode cX10_drop 147 = .ok (.iastore, 1) := by decide +kernel
theorem dX10_drop_148 : decode cX10_drop 148 = .ok (.aload_n 0, 1) := by decide +kernel
theorem dX10_drop_149 : decode cX10_drop 149 = .ok (.invokevirtual 228, 3) := by decide +kernel
theorem dX10_drop_152 : decode cX10_drop 152 = .ok (.ireturn, 1) := by decide +kernel
theorem dX10_turn_0 : decode cX10_turn 0 = .ok (.aload_n 0, 1) := by decide +kernel
theorem dX10_turn_1 : decode cX10_turn 1 = .ok (.iconst 0, 1) := by decide +kernel
theorem dX10_turn_2 : decode cX10_turn 2 = .ok (.putfield 1, 3) := by decide +kernel
theorem dX10_turn_5 : decode cX10_turn 5 = .ok (.aload_n 0, 1) := by decide +kernel
theorem dX10_turn_6 : decode cX10_turn 6 = .ok (.invokevirtual 240, 3) := by decide +kernel
theorem dX10_turn_9 : decode cX10_turn 9 = .ok (.invokestatic 276, 3) := by decide +kernel
theorem dX10_turn_12 : decode cX10_turn 12 = .ok (.istore_n 1, 1) := by decide +kernel
theorem dX10_turn_13 : decode cX10_turn 13 = .ok (.iload_n 1, 1) := by decide +kernel
theorem dX10_turn_14 : decode cX10_turn 14 = .ok (.ifCond .ne 5, 3) := by decide +kernel
theorem dX10_turn_17 : decode cX10_turn 17 = .ok (.iconst 0, 1) := by decide +kernel
theorem dX10_turn_18 : decode cX10_turn 18 = .ok (.ireturn, 1) := by decide +kernel
theorem dX10_turn_19 : decode cX10_turn 19 = .ok (.aload_n 0, 1) := by decide +kernel
theorem dX10_turn_20 : decode cX10_turn 20 = .ok (.invokevirtual 250, 3) := by decide +kernel
theorem dX10_turn_23 : decode cX10_turn 23 = .ok (.iconst 0, 1) := by decide +kernel
theorem dX10_turn_24 : decode cX10_turn 24 = .ok (.istore_n 2, 1) := by decide +kernel
theorem dX10_turn_25 : decode cX10_turn 25 = .ok (.iload_n 2, 1) := by decide +kernel
theorem dX10_turn_26 : decode cX10_turn 26 = .ok (.aload_n 0, 1) := by decide +kernel
theorem dX10_turn_27 : decode cX10_turn 27 = .ok (.invokevirtual 237, 3) := by decide +kernel
theorem dX10_turn_30 : decode cX10_turn 30 = .ok (.if_icmp .ge 61, 3) := by decide +kernel
theorem dX10_turn_33 : decode cX10_turn 33 = .ok (.aload_n 0, 1) := by decide +kernel
theorem dX10_turn_34 : decode cX10_turn 34 = .ok (.getfield 74, 3) := by decide +kernel
theorem dX10_turn_37 : decode cX10_turn 37 = .ok (.iconst 2, 1) := by decide +kernel
theorem dX10_turn_38 : decode cX10_turn 38 = .ok (.iload_n 2, 1) := by decide +kernel
theorem dX10_turn_39 : decode cX10_turn 39 = .ok (.iadd, 1) := by decide +kernel
theorem dX10_turn_40 : decode cX10_turn 40 = .ok (.iaload, 1) := by decide +kernel
theorem dX10_turn_41 : decode cX10_turn 41 = .ok (.ifCond .eq 6, 3) := by decide +kernel
theorem dX10_turn_44 : decode cX10_turn 44 = .ok (.goto 41, 3) := by decide +kernel
theorem dX10_turn_47 : decode cX10_turn 47 = .ok (.aload_n 0, 1) := by decide +kernel
theorem dX10_turn_48 : decode cX10_turn 48 = .ok (.getfield 74, 3) := by decide +kernel
theorem dX10_turn_51 : decode cX10_turn 51 = .ok (.bipush 30, 2) := by decide +kernel
theorem dX10_turn_53 : decode cX10_turn 53 = .ok (.iload_n 2, 1) := by decide +kernel
theorem dX10_turn_54 : decode cX10_turn 54 = .ok (.iadd, 1) := by decide +kernel
theorem dX10_turn_55 : decode cX10_turn 55 = .ok (.iaload, 1) := by decide +kernel
theorem dX10_turn_56 : decode cX10_turn 56 = .ok (.istore_n 3, 1) := by decide +kernel
theorem dX10_turn_57 : decode cX10_turn 57 = .ok (.aload_n 0, 1) := by decide +kernel
theorem dX10_turn_58 : decode cX10_turn 58 = .ok (.getfield 74, 3) := by decide +kernel
theorem dX10_turn_61 : decode cX10_turn 61 = .ok (.bipush 30, 2) := by decide +kernel
theorem dX10_turn_63 : decode cX10_turn 63 = .ok (.iload_n 2, 1) := by decide +kernel
theorem dX10_turn_64 : decode cX10_turn 64 = .ok (.iadd, 1) := by decide +kernel
theorem dX10_turn_65 : decode cX10_turn 65 = .ok (.aload_n 0, 1) := by decide +kernel
theorem dX10_turn_66 : decode cX10_turn 66 = .ok (.getfield 74, 3) := by decide +kernel
theorem dX10_turn_69 : decode cX10_turn 69 = .ok (.bipush 58, 2) := by decide +kernel
theorem dX10_turn_71 : decode cX10_turn 71 = .ok (.iload_n 2, 1) := by decide +kernel
theorem dX10_turn_72 : decode cX10_turn 72 = .ok (.iadd, 1) := by decide +kernel
theorem dX10_turn_73 : decode cX10_turn 73 = .ok (.iaload, 1) := by decide +kernel
theorem dX10_turn_74 : decode cX10_turn 74 = .ok (.iastore, 1) := by decide +kernel
theorem dX10_turn_75 : decode cX10_turn 75 = .ok (.aload_n 0, 1) := by decide +kernel
theorem dX10_turn_76 : decode cX10_turn 76 = .ok (.getfield 74, 3) := by decide +kernel
theorem dX10_turn_79 : decode cX10_turn 79 = .ok (.bipush 58, 2) := by decide +kernel
theorem dX10_turn_81 : decode cX10_turn 81 = .ok (.iload_n 2, 1) := by decide +kernel
theorem dX10_turn_82 : decode cX10_turn 82 = .ok (.iadd, 1) := by decide +kernel
theorem dX10_turn_83 : decode cX10_turn 83 = .ok (.iload_n 3, 1) := by decide +kernel
theorem dX10_turn_84 : decode cX10_turn 84 = .ok (.iastore, 1) := by decide +kernel
theorem dX10_turn_85 : decode cX10_turn 85 = .ok (.iinc 2 1, 3) := by decide +kernel
theorem dX10_turn_88 : decode cX10_turn 88 = .ok (.goto (-63), 3) := by decide +kernel
theorem dX10_turn_91 : decode cX10_turn 91 = .ok (.iload_n 1, 1) := by decide +kernel
theorem dX10_turn_92 : decode cX10_turn 92 = .ok (.ireturn, 1) := by decide +kernel
theorem dX10_draw_0 : decode cX10_draw 0 = .ok (.aload_n 0, 1) := by decide +kernel
theorem dX10_draw_1 : decode cX10_draw 1 = .ok (.aload_n 0, 1) := by decide +kernel
theorem dX10_draw_2 : decode cX10_draw 2 = .ok (.getfield 326, 3) := by decide +kernel
theorem dX10_draw_5 : decode cX10_draw 5 = .ok (.ldc_w 329, 3) := by decide +kernel
theorem dX10_draw_8 : decode cX10_draw 8 = .ok (.imul, 1) := by decide +kernel
theorem dX10_draw_9 : decode cX10_draw 9 = .ok (.sipush 12345, 3) := by decide +kernel
theorem dX10_draw_12 : decode cX10_draw 12 = .ok (.iadd, 1) := by decide +kernel
theorem dX10_draw_13 : decode cX10_draw 13 = .ok (.putfield 326, 3) := by decide +kernel
theorem dX10_draw_16 : decode cX10_draw 16 = .ok (.aload_n 0, 1) := by decide +kernel
theorem dX10_draw_17 : decode cX10_draw 17 = .ok (.getfield 326, 3) := by decide +kernel
theorem dX10_draw_20 : decode cX10_draw 20 = .ok (.bipush 8, 2) := by decide +kernel
theorem dX10_draw_22 : decode cX10_draw 22 = .ok (.iushr, 1) := by decide +kernel
theorem dX10_draw_23 : decode cX10_draw 23 = .ok (.iload_n 1, 1) := by decide +kernel
theorem dX10_draw_24 : decode cX10_draw 24 = .ok (.irem, 1) := by decide +kernel
theorem dX10_draw_25 : decode cX10_draw 25 = .ok (.ireturn, 1) := by decide +kernel
theorem dX10_does_0 : decode cX10_does 0 = .ok (.aload_n 0, 1) := by decide +kernel
theorem dX10_does_1 : decode cX10_does 1 = .ok (.bipush 8, 2) := by decide +kernel
theorem dX10_does_3 : decode cX10_does 3 = .ok (.invokevirtual 330, 3) := by decide +kernel
theorem dX10_does_6 : decode cX10_does 6 = .ok (.ifCond .ne 29, 3) := by decide +kernel
theorem dX10_does_9 : decode cX10_does 9 = .ok (.aload_n 0, 1) := by decide +kernel
theorem dX10_does_10 : decode cX10_does 10 = .ok (.invokevirtual 237, 3) := by decide +kernel
theorem dX10_does_13 : decode cX10_does 13 = .ok (.ifCond .ne 5, 3) := by decide +kernel
theorem dX10_does_16 : decode cX10_does 16 = .ok (.iconst 0, 1) := by decide +kernel
theorem dX10_does_17 : decode cX10_does 17 = .ok (.ireturn, 1) := by decide +kernel
theorem dX10_does_18 : decode cX10_does 18 = .ok (.aload_n 0, 1) := by decide +kernel
theorem dX10_does_19 : decode cX10_does 19 = .ok (.getfield 74, 3) := by decide +kernel
theorem dX10_does_22 : decode cX10_does 22 = .ok (.aload_n 0, 1) := by decide +kernel
theorem dX10_does_23 : decode cX10_does 23 = .ok (.aload_n 0, 1) := by decide +kernel
theorem dX10_does_24 : decode cX10_does 24 = .ok (.invokevirtual 237, 3) := by decide +kernel
theorem dX10_does_27 : decode cX10_does 27 = .ok (.invokevirtual 330, 3) := by decide +kernel
theorem dX10_does_30 : decode cX10_does 30 = .ok (.invokestatic 256, 3) := by decide +kernel
theorem dX10_does_33 : decode cX10_does 33 = .ok (.iconst 1, 1) := by decide +kernel
theorem dX10_does_34 : decode cX10_does 34 = .ok (.ireturn, 1) := by decide +kernel
theorem dX10_does_35 : decode cX10_does 35 = .ok (.aload_n 0, 1) := by decide +kernel
theorem dX10_does_36 : decode cX10_does 36 = .ok (.invokevirtual 228, 3) := by decide +kernel
theorem dX10_does_39 : decode cX10_does 39 = .ok (.iconst 2, 1) := by decide +kernel
theorem dX10_does_40 : decode cX10_does 40 = .ok (.if_icmp .ge 5, 3) := by decide +kernel
theorem dX10_does_43 : decode cX10_does 43 = .ok (.iconst 0, 1) := by decide +kernel
theorem dX10_does_44 : decode cX10_does 44 = .ok (.ireturn, 1) := by decide +kernel
theorem dX10_does_45 : decode cX10_does 45 = .ok (.aload_n 0, 1) := by decide +kernel
theorem dX10_does_46 : decode cX10_does 46 = .ok (.aload_n 0, 1) := by decide +kernel
theorem dX10_does_47 : decode cX10_does 47 = .ok (.invokevirtual 228, 3) := by decide +kernel
theorem dX10_does_50 : decode cX10_does 50 = .ok (.invokevirtual 330, 3) := by decide +kernel
theorem dX10_does_53 : decode cX10_does 53 = .ok (.istore_n 1, 1) := by decide +kernel
theorem dX10_does_54 : decode cX10_does 54 = .ok (.aload_n 0, 1) := by decide +kernel
theorem dX10_does_55 : decode cX10_does 55 = .ok (.aload_n 0, 1) := by decide +kernel
theorem dX10_does_56 : decode cX10_does 56 = .ok (.invokevirtual 228, 3) := by decide +kernel
theorem dX10_does_59 : decode cX10_does 59 = .ok (.iconst 1, 1) := by decide +kernel
theorem dX10_does_60 : decode cX10_does 60 = .ok (.isub, 1) := by decide +kernel
theorem dX10_does_61 : decode cX10_does 61 = .ok (.invokevirtual 330, 3) := by decide +kernel
theorem dX10_does_64 : decode cX10_does 64 = .ok (.istore_n 2, 1) := by decide +kernel
theorem dX10_does_65 : decode cX10_does 65 = .ok (.iload_n 2, 1) := by decide +kernel
theorem dX10_does_66 : decode cX10_does 66 = .ok (.iload_n 1, 1) := by decide +kernel
theorem dX10_does_67 : decode cX10_does 67 = .ok (.if_icmp .lt 6, 3) := by decide +kernel
theorem dX10_does_70 : decode cX10_does 70 = .ok (.iinc 2 1, 3) := by decide +kernel
theorem dX10_does_73 : decode cX10_does 73 = .ok (.aload_n 0, 1) := by decide +kernel
theorem dX10_does_74 : decode cX10_does 74 = .ok (.iconst 2, 1) := by decide +kernel
theorem dX10_does_75 : decode cX10_does 75 = .ok (.invokevirtual 330, 3) := by decide +kernel
theorem dX10_does_78 : decode cX10_does 78 = .ok (.istore_n 3, 1) := by decide +kernel
theorem dX10_does_79 : decode cX10_does 79 = .ok (.aload_n 0, 1) := by decide +kernel
theorem dX10_does_80 : decode cX10_does 80 = .ok (.getfield 74, 3) := by decide +kernel
theorem dX10_does_83 : decode cX10_does 83 = .ok (.iload_n 1, 1) := by decide +kernel
theorem dX10_does_84 : decode cX10_does 84 = .ok (.iload_n 2, 1) := by decide +kernel
theorem dX10_does_85 : decode cX10_does 85 = .ok (.invokestatic 142, 3) := by decide +kernel
theorem dX10_does_88 : decode cX10_does 88 = .ok (.iconst (-1), 1) := by decide +kernel
theorem dX10_does_89 : decode cX10_does 89 = .ok (.if_icmp .ne 17, 3) := by decide +kernel
theorem dX10_does_92 : decode cX10_does 92 = .ok (.aload_n 0, 1) := by decide +kernel
theorem dX10_does_93 : decode cX10_does 93 = .ok (.aload_n 0, 1) := by decide +kernel
theorem dX10_does_94 : decode cX10_does 94 = .ok (.getfield 74, 3) := by decide +kernel
theorem dX10_does_97 : decode cX10_does 97 = .ok (.iload_n 3, 1) := by decide +kernel
theorem dX10_does_98 : decode cX10_does 98 = .ok (.iload_n 1, 1) := by decide +kernel
theorem dX10_does_99 : decode cX10_does 99 = .ok (.iload_n 2, 1) := by decide +kernel
theorem dX10_does_100 : decode cX10_does 100 = .ok (.invokevirtual 270, 3) := by decide +kernel
theorem dX10_does_103 : decode cX10_does 103 = .ok (.ifCond .ne 5, 3) := by decide +kernel
theorem dX10_does_106 : decode cX10_does 106 = .ok (.iconst 0, 1) := by decide +kernel
theorem dX10_does_107 : decode cX10_does 107 = .ok (.ireturn, 1) := by decide +kernel
theorem dX10_does_108 : decode cX10_does 108 = .ok (.aload_n 0, 1) := by decide +kernel
theorem dX10_does_109 : decode cX10_does 109 = .ok (.getfield 74, 3) := by decide +kernel
theorem dX10_does_112 : decode cX10_does 112 = .ok (.iload_n 3, 1) := by decide +kernel
theorem dX10_does_113 : decode cX10_does 113 = .ok (.iload_n 1, 1) := by decide +kernel
theorem dX10_does_114 : decode cX10_does 114 = .ok (.iload_n 2, 1) := by decide +kernel
theorem dX10_does_115 : decode cX10_does 115 = .ok (.invokestatic 153, 3) := by decide +kernel
theorem dX10_does_118 : decode cX10_does 118 = .ok (.iconst 1, 1) := by decide +kernel
theorem dX10_does_119 : decode cX10_does 119 = .ok (.ireturn, 1) := by decide +kernel
theorem dX10_drawn_0 : decode cX10_drawn 0 = .ok (.aload_n 0, 1) := by decide +kernel
theorem dX10_drawn_1 : decode cX10_drawn 1 = .ok (.iconst 0, 1) := by decide +kernel
theorem dX10_drawn_2 : decode cX10_drawn 2 = .ok (.putfield 1, 3) := by decide +kernel
theorem dX10_drawn_5 : decode cX10_drawn 5 = .ok (.iload_n 1, 1) := by decide +kernel
theorem dX10_drawn_6 : decode cX10_drawn 6 = .ok (.iconst 1, 1) := by decide +kernel
theorem dX10_drawn_7 : decode cX10_drawn 7 = .ok (.bipush 60, 2) := by decide +kernel
theorem dX10_drawn_9 : decode cX10_drawn 9 = .ok (.invokestatic 224, 3) := by decide +kernel
theorem dX10_drawn_12 : decode cX10_drawn 12 = .ok (.ifCond .ne 5, 3) := by decide +kernel
theorem dX10_drawn_15 : decode cX10_drawn 15 = .ok (.iconst (-1), 1) := by decide +kernel
theorem dX10_drawn_16 : decode cX10_drawn 16 = .ok (.ireturn, 1) := by decide +kernel
theorem dX10_drawn_17 : decode cX10_drawn 17 = .ok (.aload_n 0, 1) := by decide +kernel
theorem dX10_drawn_18 : decode cX10_drawn 18 = .ok (.getfield 74, 3) := by decide +kernel
theorem dX10_drawn_21 : decode cX10_drawn 21 = .ok (.iconst 0, 1) := by decide +kernel
theorem dX10_drawn_22 : decode cX10_drawn 22 = .ok (.aload_n 0, 1) := by decide +kernel
theorem dX10_drawn_23 : decode cX10_drawn 23 = .ok (.getfield 86, 3) := by decide +kernel
theorem dX10_drawn_26 : decode cX10_drawn 26 = .ok (.iconst 0, 1) := by decide +kernel
theorem dX10_drawn_27 : decode cX10_drawn 27 = .ok (.invokestatic 163, 3) := by decide +kernel
theorem dX10_drawn_30 : decode cX10_drawn 30 = .ok (.aload_n 0, 1) := by decide +kernel
theorem dX10_drawn_31 : decode cX10_drawn 31 = .ok (.iload_n 2, 1) := by decide +kernel
theorem dX10_drawn_32 : decode cX10_drawn 32 = .ok (.putfield 326, 3) := by decide +kernel
theorem dX10_drawn_35 : decode cX10_drawn 35 = .ok (.iconst 0, 1) := by decide +kernel
theorem dX10_drawn_36 : decode cX10_drawn 36 = .ok (.istore_n 3, 1) := by decide +kernel
theorem dX10_drawn_37 : decode cX10_drawn 37 = .ok (.iconst 0, 1) := by decide +kernel
theorem dX10_drawn_38 : decode cX10_drawn 38 = .ok (.istore 4, 2) := by decide +kernel
theorem dX10_drawn_40 : decode cX10_drawn 40 = .ok (.iload 4, 2) := by decide +kernel
theorem dX10_drawn_42 : decode cX10_drawn 42 = .ok (.iload_n 1, 1) := by decide +kernel
theorem dX10_drawn_43 : decode cX10_drawn 43 = .ok (.if_icmp .ge 19, 3) := by decide +kernel
theorem dX10_drawn_46 : decode cX10_drawn 46 = .ok (.aload_n 0, 1) := by decide +kernel
theorem dX10_drawn_47 : decode cX10_drawn 47 = .ok (.invokevirtual 333, 3) := by decide +kernel
theorem dX10_drawn_50 : decode cX10_drawn 50 = .ok (.ifCond .eq 6, 3) := by decide +kernel
theorem dX10_drawn_53 : decode cX10_drawn 53 = .ok (.iinc 3 1, 3) := by decide +kernel
theorem dX10_drawn_56 : decode cX10_drawn 56 = .ok (.iinc 4 1, 3) := by decide +kernel
theorem dX10_drawn_59 : decode cX10_drawn 59 = .ok (.goto (-19), 3) := by decide +kernel
theorem dX10_drawn_62 : decode cX10_drawn 62 = .ok (.iload_n 3, 1) := by decide +kernel
theorem dX10_drawn_63 : decode cX10_drawn 63 = .ok (.ifCond .le 7, 3) := by decide +kernel
theorem dX10_drawn_66 : decode cX10_drawn 66 = .ok (.aload_n 0, 1) := by decide +kernel
theorem dX10_drawn_67 : decode cX10_drawn 67 = .ok (.invokevirtual 323, 3) := by decide +kernel
theorem dX10_drawn_70 : decode cX10_drawn 70 = .ok (.iload_n 3, 1) := by decide +kernel
theorem dX10_drawn_71 : decode cX10_drawn 71 = .ok (.ireturn, 1) := by decide +kernel
theorem dX10_undo_0 : decode cX10_undo 0 = .ok (.aload_n 0, 1) := by decide +kernel
theorem dX10_undo_1 : decode cX10_undo 1 = .ok (.iconst 0, 1) := by decide +kernel
theorem dX10_undo_2 : decode cX10_undo 2 = .ok (.putfield 1, 3) := by decide +kernel
theorem dX10_undo_5 : decode cX10_undo 5 = .ok (.aload_n 0, 1) := by decide +kernel
theorem dX10_undo_6 : decode cX10_undo 6 = .ok (.getfield 167, 3) := by decide +kernel
theorem dX10_undo_9 : decode cX10_undo 9 = .ok (.ifCond .ne 5, 3) := by decide +kernel
theorem dX10_undo_12 : decode cX10_undo 12 = .ok (.iconst (-1), 1) := by decide +kernel
theorem dX10_undo_13 : decode cX10_undo 13 = .ok (.ireturn, 1) := by decide +kernel
theorem dX10_undo_14 : decode cX10_undo 14 = .ok (.aload_n 0, 1) := by decide +kernel
theorem dX10_undo_15 : decode cX10_undo 15 = .ok (.dup, 1) := by decide +kernel
theorem dX10_undo_16 : decode cX10_undo 16 = .ok (.getfield 167, 3) := by decide +kernel
theorem dX10_undo_19 : decode cX10_undo 19 = .ok (.iconst 1, 1) := by decide +kernel
theorem dX10_undo_20 : decode cX10_undo 20 = .ok (.isub, 1) := by decide +kernel
theorem dX10_undo_21 : decode cX10_undo 21 = .ok (.putfield 167, 3) := by decide +kernel
theorem dX10_undo_24 : decode cX10_undo 24 = .ok (.aload_n 0, 1) := by decide +kernel
theorem dX10_undo_25 : decode cX10_undo 25 = .ok (.getfield 83, 3) := by decide +kernel
theorem dX10_undo_28 : decode cX10_undo 28 = .ok (.bipush 86, 2) := by decide +kernel
theorem dX10_undo_30 : decode cX10_undo 30 = .ok (.aload_n 0, 1) := by decide +kernel
theorem dX10_undo_31 : decode cX10_undo 31 = .ok (.getfield 167, 3) := by decide +kernel
theorem dX10_undo_34 : decode cX10_undo 34 = .ok (.imul, 1) := by decide +kernel
theorem dX10_undo_35 : decode cX10_undo 35 = .ok (.aload_n 0, 1) := by decide +kernel
theorem dX10_undo_36 : decode cX10_undo 36 = .ok (.getfield 74, 3) := by decide +kernel
theorem dX10_undo_39 : decode cX10_undo 39 = .ok (.iconst 0, 1) := by decide +kernel
theorem dX10_undo_40 : decode cX10_undo 40 = .ok (.invokestatic 163, 3) := by decide +kernel
theorem dX10_undo_43 : decode cX10_undo 43 = .ok (.aload_n 0, 1) := by decide +kernel
theorem dX10_undo_44 : decode cX10_undo 44 = .ok (.getfield 167, 3) := by decide +kernel
theorem dX10_undo_47 : decode cX10_undo 47 = .ok (.ireturn, 1) := by decide +kernel
theorem dX10_image_0 : decode cX10_image 0 = .ok (.aload_n 0, 1) := by decide +kernel
theorem dX10_image_1 : decode cX10_image 1 = .ok (.iconst 0, 1) := by decide +kernel
theorem dX10_image_2 : decode cX10_image 2 = .ok (.putfield 1, 3) := by decide +kernel
theorem dX10_image_5 : decode cX10_image 5 = .ok (.iload_n 1, 1) := by decide +kernel
theorem dX10_image_6 : decode cX10_image 6 = .ok (.iconst 0, 1) := by decide +kernel
theorem dX10_image_7 : decode cX10_image 7 = .ok (.iconst 1, 1) := by decide +kernel
theorem dX10_image_8 : decode cX10_image 8 = .ok (.invokestatic 224, 3) := by decide +kernel
theorem dX10_image_11 : decode cX10_image 11 = .ok (.ifCond .ne 5, 3) := by decide +kernel
theorem dX10_image_14 : decode cX10_image 14 = .ok (.iconst 0, 1) := by decide +kernel
theorem dX10_image_15 : decode cX10_image 15 = .ok (.ireturn, 1) := by decide +kernel
theorem dX10_image_16 : decode cX10_image 16 = .ok (.aload_n 0, 1) := by decide +kernel
theorem dX10_image_17 : decode cX10_image 17 = .ok (.getfield 74, 3) := by decide +kernel
theorem dX10_image_20 : decode cX10_image 20 = .ok (.iconst 0, 1) := by decide +kernel
theorem dX10_image_21 : decode cX10_image 21 = .ok (.aload_n 0, 1) := by decide +kernel
theorem dX10_image_22 : decode cX10_image 22 = .ok (.getfield 80, 3) := by decide +kernel
theorem dX10_image_25 : decode cX10_image 25 = .ok (.bipush 86, 2) := by decide +kernel
theorem dX10_image_27 : decode cX10_image 27 = .ok (.iload_n 1, 1) := by decide +kernel
theorem dX10_image_28 : decode cX10_image 28 = .ok (.imul, 1) := by decide +kernel
theorem dX10_image_29 : decode cX10_image 29 = .ok (.invokestatic 163, 3) := by decide +kernel
theorem dX10_image_32 : decode cX10_image 32 = .ok (.aload_n 0, 1) := by decide +kernel
theorem dX10_image_33 : decode cX10_image 33 = .ok (.getfield 99, 3) := by decide +kernel
theorem dX10_image_36 : decode cX10_image 36 = .ok (.iload_n 1, 1) := by decide +kernel
theorem dX10_image_37 : decode cX10_image 37 = .ok (.iconst 1, 1) := by decide +kernel
theorem dX10_image_38 : decode cX10_image 38 = .ok (.bastore, 1) := by decide +kernel
theorem dX10_image_39 : decode cX10_image 39 = .ok (.iconst 1, 1) := by decide +kernel
theorem dX10_image_40 : decode cX10_image 40 = .ok (.ireturn, 1) := by decide +kernel
theorem dX10_restore_0 : decode cX10_restore 0 = .ok (.aload_n 0, 1) := by decide +kernel
theorem dX10_restore_1 : decode cX10_restore 1 = .ok (.iconst 0, 1) := by decide +kernel
theorem dX10_restore_2 : decode cX10_restore 2 = .ok (.putfield 1, 3) := by decide +kernel
theorem dX10_restore_5 : decode cX10_restore 5 = .ok (.iload_n 1, 1) := by decide +kernel
theorem dX10_restore_6 : decode cX10_restore 6 = .ok (.iconst 0, 1) := by decide +kernel
theorem dX10_restore_7 : decode cX10_restore 7 = .ok (.iconst 1, 1) := by decide +kernel
theorem dX10_restore_8 : decode cX10_restore 8 = .ok (.invokestatic 224, 3) := by decide +kernel
theorem dX10_restore_11 : decode cX10_restore 11 = .ok (.ifCond .eq 12, 3) := by decide +kernel
theorem dX10_restore_14 : decode cX10_restore 14 = .ok (.aload_n 0, 1) := by decide +kernel
theorem dX10_restore_15 : decode cX10_restore 15 = .ok (.getfield 99, 3) := by decide +kernel
theorem dX10_restore_18 : decode cX10_restore 18 = .ok (.iload_n 1, 1) := by decide +kernel
theorem dX10_restore_19 : decode cX10_restore 19 = .ok (.baload, 1) := by decide +kernel
theorem dX10_restore_20 : decode cX10_restore 20 = .ok (.ifCond .ne 5, 3) := by decide +kernel
theorem dX10_restore_23 : decode cX10_restore 23 = .ok (.iconst 0, 1) := by decide +kernel
theorem dX10_restore_24 : decode cX10_restore 24 = .ok (.ireturn, 1) := by decide +kernel
theorem dX10_restore_25 : decode cX10_restore 25 = .ok (.aload_n 0, 1) := by decide +kernel
theorem dX10_restore_26 : decode cX10_restore 26 = .ok (.getfield 80, 3) := by decide +kernel
theorem dX10_restore_29 : decode cX10_restore 29 = .ok (.bipush 86, 2) := by decide +kernel
theorem dX10_restore_31 : decode cX10_restore 31 = .ok (.iload_n 1, 1) := by decide +kernel
theorem dX10_restore_32 : decode cX10_restore 32 = .ok (.imul, 1) := by decide +kernel
theorem dX10_restore_33 : decode cX10_restore 33 = .ok (.aload_n 0, 1) := by decide +kernel
theorem dX10_restore_34 : decode cX10_restore 34 = .ok (.getfield 74, 3) := by decide +kernel
theorem dX10_restore_37 : decode cX10_restore 37 = .ok (.iconst 0, 1) := by decide +kernel
theorem dX10_restore_38 : decode cX10_restore 38 = .ok (.invokestatic 163, 3) := by decide +kernel
theorem dX10_restore_41 : decode cX10_restore 41 = .ok (.aload_n 0, 1) := by decide +kernel
theorem dX10_restore_42 : decode cX10_restore 42 = .ok (.iconst 0, 1) := by decide +kernel
theorem dX10_restore_43 : decode cX10_restore 43 = .ok (.putfield 167, 3) := by decide +kernel
theorem dX10_restore_46 : decode cX10_restore 46 = .ok (.iconst 1, 1) := by decide +kernel
theorem dX10_restore_47 : decode cX10_restore 47 = .ok (.ireturn, 1) := by decide +kernel
theorem dJ6_bitCount_0f7a4_0 : decode cJ6_bitCount_0f7a4 0 = .ok (.iload_n 0, 1) := by decide +kernel
theorem dJ6_bitCount_0f7a4_1 : decode cJ6_bitCount_0f7a4 1 = .ok (.iload_n 0, 1) := by decide +kernel
theorem dJ6_bitCount_0f7a4_2 : decode cJ6_bitCount_0f7a4 2 = .ok (.iconst 1, 1) := by decide +kernel
theorem dJ6_bitCount_0f7a4_3 : decode cJ6_bitCount_0f7a4 3 = .ok (.iushr, 1) := by decide +kernel
theorem dJ6_bitCount_0f7a4_4 : decode cJ6_bitCount_0f7a4 4 = .ok (.ldc_w 265, 3) := by decide +kernel
theorem dJ6_bitCount_0f7a4_7 : decode cJ6_bitCount_0f7a4 7 = .ok (.iand, 1) := by decide +kernel
theorem dJ6_bitCount_0f7a4_8 : decode cJ6_bitCount_0f7a4 8 = .ok (.isub, 1) := by decide +kernel
theorem dJ6_bitCount_0f7a4_9 : decode cJ6_bitCount_0f7a4 9 = .ok (.istore_n 0, 1) := by decide +kernel
theorem dJ6_bitCount_0f7a4_10 : decode cJ6_bitCount_0f7a4 10 = .ok (.iload_n 0, 1) := by decide +kernel
theorem dJ6_bitCount_0f7a4_11 : decode cJ6_bitCount_0f7a4 11 = .ok (.ldc_w 266, 3) := by decide +kernel
theorem dJ6_bitCount_0f7a4_14 : decode cJ6_bitCount_0f7a4 14 = .ok (.iand, 1) := by decide +kernel
theorem dJ6_bitCount_0f7a4_15 : decode cJ6_bitCount_0f7a4 15 = .ok (.iload_n 0, 1) := by decide +kernel
theorem dJ6_bitCount_0f7a4_16 : decode cJ6_bitCount_0f7a4 16 = .ok (.iconst 2, 1) := by decide +kernel
theorem dJ6_bitCount_0f7a4_17 : decode cJ6_bitCount_0f7a4 17 = .ok (.iushr, 1) := by decide +kernel
theorem dJ6_bitCount_0f7a4_18 : decode cJ6_bitCount_0f7a4 18 = .ok (.ldc_w 266, 3) := by decide +kernel
theorem dJ6_bitCount_0f7a4_21 : decode cJ6_bitCount_0f7a4 21 = .ok (.iand, 1) := by decide +kernel
theorem dJ6_bitCount_0f7a4_22 : decode cJ6_bitCount_0f7a4 22 = .ok (.iadd, 1) := by decide +kernel
theorem dJ6_bitCount_0f7a4_23 : decode cJ6_bitCount_0f7a4 23 = .ok (.istore_n 0, 1) := by decide +kernel
theorem dJ6_bitCount_0f7a4_24 : decode cJ6_bitCount_0f7a4 24 = .ok (.iload_n 0, 1) := by decide +kernel
theorem dJ6_bitCount_0f7a4_25 : decode cJ6_bitCount_0f7a4 25 = .ok (.iload_n 0, 1) := by decide +kernel
theorem dJ6_bitCount_0f7a4_26 : decode cJ6_bitCount_0f7a4 26 = .ok (.iconst 4, 1) := by decide +kernel
theorem dJ6_bitCount_0f7a4_27 : decode cJ6_bitCount_0f7a4 27 = .ok (.iushr, 1) := by decide +kernel
theorem dJ6_bitCount_0f7a4_28 : decode cJ6_bitCount_0f7a4 28 = .ok (.iadd, 1) := by decide +kernel
theorem dJ6_bitCount_0f7a4_29 : decode cJ6_bitCount_0f7a4 29 = .ok (.ldc_w 267, 3) := by decide +kernel
theorem dJ6_bitCount_0f7a4_32 : decode cJ6_bitCount_0f7a4 32 = .ok (.iand, 1) := by decide +kernel
theorem dJ6_bitCount_0f7a4_33 : decode cJ6_bitCount_0f7a4 33 = .ok (.istore_n 0, 1) := by decide +kernel
theorem dJ6_bitCount_0f7a4_34 : decode cJ6_bitCount_0f7a4 34 = .ok (.iload_n 0, 1) := by decide +kernel
theorem dJ6_bitCount_0f7a4_35 : decode cJ6_bitCount_0f7a4 35 = .ok (.iload_n 0, 1) := by decide +kernel
theorem dJ6_bitCount_0f7a4_36 : decode cJ6_bitCount_0f7a4 36 = .ok (.bipush 8, 2) := by decide +kernel
theorem dJ6_bitCount_0f7a4_38 : decode cJ6_bitCount_0f7a4 38 = .ok (.iushr, 1) := by decide +kernel
theorem dJ6_bitCount_0f7a4_39 : decode cJ6_bitCount_0f7a4 39 = .ok (.iadd, 1) := by decide +kernel
theorem dJ6_bitCount_0f7a4_40 : decode cJ6_bitCount_0f7a4 40 = .ok (.istore_n 0, 1) := by decide +kernel
theorem dJ6_bitCount_0f7a4_41 : decode cJ6_bitCount_0f7a4 41 = .ok (.iload_n 0, 1) := by decide +kernel
theorem dJ6_bitCount_0f7a4_42 : decode cJ6_bitCount_0f7a4 42 = .ok (.iload_n 0, 1) := by decide +kernel
theorem dJ6_bitCount_0f7a4_43 : decode cJ6_bitCount_0f7a4 43 = .ok (.bipush 16, 2) := by decide +kernel
theorem dJ6_bitCount_0f7a4_45 : decode cJ6_bitCount_0f7a4 45 = .ok (.iushr, 1) := by decide +kernel
theorem dJ6_bitCount_0f7a4_46 : decode cJ6_bitCount_0f7a4 46 = .ok (.iadd, 1) := by decide +kernel
theorem dJ6_bitCount_0f7a4_47 : decode cJ6_bitCount_0f7a4 47 = .ok (.istore_n 0, 1) := by decide +kernel
theorem dJ6_bitCount_0f7a4_48 : decode cJ6_bitCount_0f7a4 48 = .ok (.iload_n 0, 1) := by decide +kernel
theorem dJ6_bitCount_0f7a4_49 : decode cJ6_bitCount_0f7a4 49 = .ok (.bipush 63, 2) := by decide +kernel
theorem dJ6_bitCount_0f7a4_51 : decode cJ6_bitCount_0f7a4 51 = .ok (.iand, 1) := by decide +kernel
theorem dJ6_bitCount_0f7a4_52 : decode cJ6_bitCount_0f7a4 52 = .ok (.ireturn, 1) := by decide +kernel
theorem dJ9_abs_0f7a4_0 : decode cJ9_abs_0f7a4 0 = .ok (.iload_n 0, 1) := by decide +kernel
theorem dJ9_abs_0f7a4_1 : decode cJ9_abs_0f7a4 1 = .ok (.ifCond .ge 8, 3) := by decide +kernel
theorem dJ9_abs_0f7a4_4 : decode cJ9_abs_0f7a4 4 = .ok (.iload_n 0, 1) := by decide +kernel
theorem dJ9_abs_0f7a4_5 : decode cJ9_abs_0f7a4 5 = .ok (.ineg, 1) := by decide +kernel
theorem dJ9_abs_0f7a4_6 : decode cJ9_abs_0f7a4 6 = .ok (.goto 4, 3) := by decide +kernel
theorem dJ9_abs_0f7a4_9 : decode cJ9_abs_0f7a4 9 = .ok (.iload_n 0, 1) := by decide +kernel
theorem dJ9_abs_0f7a4_10 : decode cJ9_abs_0f7a4 10 = .ok (.ireturn, 1) := by decide +kernel
theorem dJ9_max_7cf53_0 : decode cJ9_max_7cf53 0 = .ok (.iload_n 0, 1) := by decide +kernel
theorem dJ9_max_7cf53_1 : decode cJ9_max_7cf53 1 = .ok (.iload_n 1, 1) := by decide +kernel
theorem dJ9_max_7cf53_2 : decode cJ9_max_7cf53 2 = .ok (.if_icmp .lt 7, 3) := by decide +kernel
theorem dJ9_max_7cf53_5 : decode cJ9_max_7cf53 5 = .ok (.iload_n 0, 1) := by decide +kernel
theorem dJ9_max_7cf53_6 : decode cJ9_max_7cf53 6 = .ok (.goto 4, 3) := by decide +kernel
theorem dJ9_max_7cf53_9 : decode cJ9_max_7cf53 9 = .ok (.iload_n 1, 1) := by decide +kernel
theorem dJ9_max_7cf53_10 : decode cJ9_max_7cf53 10 = .ok (.ireturn, 1) := by decide +kernel
theorem dJ9_min_7cf53_0 : decode cJ9_min_7cf53 0 = .ok (.iload_n 0, 1) := by decide +kernel
theorem dJ9_min_7cf53_1 : decode cJ9_min_7cf53 1 = .ok (.iload_n 1, 1) := by decide +kernel
theorem dJ9_min_7cf53_2 : decode cJ9_min_7cf53 2 = .ok (.if_icmp .gt 7, 3) := by decide +kernel
theorem dJ9_min_7cf53_5 : decode cJ9_min_7cf53 5 = .ok (.iload_n 0, 1) := by decide +kernel
theorem dJ9_min_7cf53_6 : decode cJ9_min_7cf53 6 = .ok (.goto 4, 3) := by decide +kernel
theorem dJ9_min_7cf53_9 : decode cJ9_min_7cf53 9 = .ok (.iload_n 1, 1) := by decide +kernel
theorem dJ9_min_7cf53_10 : decode cJ9_min_7cf53 10 = .ok (.ireturn, 1) := by decide +kernel
theorem dJ7_fill_53178_0 : decode cJ7_fill_53178 0 = .ok (.iconst 0, 1) := by decide +kernel
theorem dJ7_fill_53178_1 : decode cJ7_fill_53178 1 = .ok (.istore_n 2, 1) := by decide +kernel
theorem dJ7_fill_53178_2 : decode cJ7_fill_53178 2 = .ok (.aload_n 0, 1) := by decide +kernel
theorem dJ7_fill_53178_3 : decode cJ7_fill_53178 3 = .ok (.arraylength, 1) := by decide +kernel
theorem dJ7_fill_53178_4 : decode cJ7_fill_53178 4 = .ok (.istore_n 3, 1) := by decide +kernel
theorem dJ7_fill_53178_5 : decode cJ7_fill_53178 5 = .ok (.iload_n 2, 1) := by decide +kernel
theorem dJ7_fill_53178_6 : decode cJ7_fill_53178 6 = .ok (.iload_n 3, 1) := by decide +kernel
theorem dJ7_fill_53178_7 : decode cJ7_fill_53178 7 = .ok (.if_icmp .ge 13, 3) := by decide +kernel
theorem dJ7_fill_53178_10 : decode cJ7_fill_53178 10 = .ok (.aload_n 0, 1) := by decide +kernel
theorem dJ7_fill_53178_11 : decode cJ7_fill_53178 11 = .ok (.iload_n 2, 1) := by decide +kernel
theorem dJ7_fill_53178_12 : decode cJ7_fill_53178 12 = .ok (.iload_n 1, 1) := by decide +kernel
theorem dJ7_fill_53178_13 : decode cJ7_fill_53178 13 = .ok (.iastore, 1) := by decide +kernel
theorem dJ7_fill_53178_14 : decode cJ7_fill_53178 14 = .ok (.iinc 2 1, 3) := by decide +kernel
theorem dJ7_fill_53178_17 : decode cJ7_fill_53178 17 = .ok (.goto (-12), 3) := by decide +kernel
theorem dJ7_fill_53178_20 : decode cJ7_fill_53178 20 = .ok (.return_, 1) := by decide +kernel
theorem dL_fact_0 : decode cL_fact 0 = .ok (.aload_n 3, 1) := by decide +kernel
theorem dL_fact_1 : decode cL_fact 1 = .ok (.iconst 0, 1) := by decide +kernel
theorem dL_fact_2 : decode cL_fact 2 = .ok (.aload_n 0, 1) := by decide +kernel
theorem dL_fact_3 : decode cL_fact 3 = .ok (.iload_n 1, 1) := by decide +kernel
theorem dL_fact_4 : decode cL_fact 4 = .ok (.iload_n 2, 1) := by decide +kernel
theorem dL_fact_5 : decode cL_fact 5 = .ok (.invokevirtual 7, 3) := by decide +kernel
theorem dL_fact_8 : decode cL_fact 8 = .ok (.i2l, 1) := by decide +kernel
theorem dL_fact_9 : decode cL_fact 9 = .ok (.lastore, 1) := by decide +kernel
theorem dL_fact_10 : decode cL_fact 10 = .ok (.goto 7, 3) := by decide +kernel
theorem dL_fact_13 : decode cL_fact 13 = .ok (.astore 4, 2) := by decide +kernel
theorem dL_fact_15 : decode cL_fact 15 = .ok (.iconst 1, 1) := by decide +kernel
theorem dL_fact_16 : decode cL_fact 16 = .ok (.ireturn, 1) := by decide +kernel
theorem dL_fact_17 : decode cL_fact 17 = .ok (.iconst 0, 1) := by decide +kernel
theorem dL_fact_18 : decode cL_fact 18 = .ok (.ireturn, 1) := by decide +kernel
theorem dL_law_0 : decode cL_law 0 = .ok (.new 8, 3) := by decide +kernel
theorem dL_law_3 : decode cL_law 3 = .ok (.dup, 1) := by decide +kernel
theorem dL_law_4 : decode cL_law 4 = .ok (.invokespecial 15, 3) := by decide +kernel
theorem dL_law_7 : decode cL_law 7 = .ok (.astore_n 1, 1) := by decide +kernel
theorem dL_law_8 : decode cL_law 8 = .ok (.new 16, 3) := by decide +kernel
theorem dL_law_11 : decode cL_law 11 = .ok (.dup, 1) := by decide +kernel
theorem dL_law_12 : decode cL_law 12 = .ok (.invokespecial 18, 3) := by decide +kernel
theorem dL_law_15 : decode cL_law 15 = .ok (.astore_n 2, 1) := by decide +kernel
theorem dL_law_16 : decode cL_law 16 = .ok (.iconst 1, 1) := by decide +kernel
theorem dL_law_17 : decode cL_law 17 = .ok (.newarray .long, 2) := by decide +kernel
theorem dL_law_19 : decode cL_law 19 = .ok (.astore_n 3, 1) := by decide +kernel
theorem dL_law_20 : decode cL_law 20 = .ok (.iconst 0, 1) := by decide +kernel
theorem dL_law_21 : decode cL_law 21 = .ok (.istore 4, 2) := by decide +kernel
theorem dL_law_23 : decode cL_law 23 = .ok (.iload 4, 2) := by decide +kernel
theorem dL_law_25 : decode cL_law 25 = .ok (.aload_n 0, 1) := by decide +kernel
theorem dL_law_26 : decode cL_law 26 = .ok (.arraylength, 1) := by decide +kernel
theorem dL_law_27 : decode cL_law 27 = .ok (.bipush 6, 2) := by decide +kernel
theorem dL_law_29 : decode cL_law 29 = .ok (.isub, 1) := by decide +kernel
theorem dL_law_30 : decode cL_law 30 = .ok (.if_icmp .gt 1263, 3) := by decide +kernel
theorem dL_law_33 : decode cL_law 33 = .ok (.aload_n 0, 1) := by decide +kernel
theorem dL_law_34 : decode cL_law 34 = .ok (.iload 4, 2) := by decide +kernel
theorem dL_law_36 : decode cL_law 36 = .ok (.iaload, 1) := by decide +kernel
theorem dL_law_37 : decode cL_law 37 = .ok (.bipush 63, 2) := by decide +kernel
theorem dL_law_39 : decode cL_law 39 = .ok (.iand, 1) := by decide +kernel
theorem dL_law_40 : decode cL_law 40 = .ok (.tableswitch 1247 0 35 #[160, 233, 258, 271, 284, 309, 377, 414, 463, 488, 513, 538, 575, 636, 661, 698, 711, 760, 809, 822, 871, 908, 933, 958, 983, 1008, 1021, 1046, 1083, 1096, 1109, 1134, 1147, 1184, 1197, 1222], 160) := by decide +kernel
theorem dL_law_200 : decode cL_law 200 = .ok (.aload_n 1, 1) := by decide +kernel
theorem dL_law_201 : decode cL_law 201 = .ok (.aload_n 0, 1) := by decide +kernel
theorem dL_law_202 : decode cL_law 202 = .ok (.iload 4, 2) := by decide +kernel
theorem dL_law_204 : decode cL_law 204 = .ok (.iconst 1, 1) := by decide +kernel
theorem dL_law_205 : decode cL_law 205 = .ok (.iadd, 1) := by decide +kernel
theorem dL_law_206 : decode cL_law 206 = .ok (.iaload, 1) := by decide +kernel
theorem dL_law_207 : decode cL_law 207 = .ok (.aload_n 0, 1) := by decide +kernel
theorem dL_law_208 : decode cL_law 208 = .ok (.iload 4, 2) := by decide +kernel
theorem dL_law_210 : decode cL_law 210 = .ok (.iconst 2, 1) := by decide +kernel
theorem dL_law_211 : decode cL_law 211 = .ok (.iadd, 1) := by decide +kernel
theorem dL_law_212 : decode cL_law 212 = .ok (.iaload, 1) := by decide +kernel
theorem dL_law_213 : decode cL_law 213 = .ok (.aload_n 0, 1) := by decide +kernel
theorem dL_law_214 : decode cL_law 214 = .ok (.iload 4, 2) := by decide +kernel
theorem dL_law_216 : decode cL_law 216 = .ok (.iconst 3, 1) := by decide +kernel
theorem dL_law_217 : decode cL_law 217 = .ok (.iadd, 1) := by decide +kernel
theorem dL_law_218 : decode cL_law 218 = .ok (.iaload, 1) := by decide +kernel
theorem dL_law_219 : decode cL_law 219 = .ok (.aload_n 0, 1) := by decide +kernel
theorem dL_law_220 : decode cL_law 220 = .ok (.iload 4, 2) := by decide +kernel
theorem dL_law_222 : decode cL_law 222 = .ok (.iconst 4, 1) := by decide +kernel
theorem dL_law_223 : decode cL_law 223 = .ok (.iadd, 1) := by decide +kernel
theorem dL_law_224 : decode cL_law 224 = .ok (.iaload, 1) := by decide +kernel
theorem dL_law_225 : decode cL_law 225 = .ok (.aload_n 0, 1) := by decide +kernel
theorem dL_law_226 : decode cL_law 226 = .ok (.iload 4, 2) := by decide +kernel
theorem dL_law_228 : decode cL_law 228 = .ok (.iconst 5, 1) := by decide +kernel
theorem dL_law_229 : decode cL_law 229 = .ok (.iadd, 1) := by decide +kernel
theorem dL_law_230 : decode cL_law 230 = .ok (.iaload, 1) := by decide +kernel
theorem dL_law_231 : decode cL_law 231 = .ok (.invokevirtual 19, 3) := by decide +kernel
theorem dL_law_234 : decode cL_law 234 = .ok (.aload_n 2, 1) := by decide +kernel
theorem dL_law_235 : decode cL_law 235 = .ok (.aload_n 0, 1) := by decide +kernel
theorem dL_law_236 : decode cL_law 236 = .ok (.iload 4, 2) := by decide +kernel
theorem dL_law_238 : decode cL_law 238 = .ok (.iconst 1, 1) := by decide +kernel
theorem dL_law_239 : decode cL_law 239 = .ok (.iadd, 1) := by decide +kernel
theorem dL_law_240 : decode cL_law 240 = .ok (.iaload, 1) := by decide +kernel
theorem dL_law_241 : decode cL_law 241 = .ok (.aload_n 0, 1) := by decide +kernel
theorem dL_law_242 : decode cL_law 242 = .ok (.iload 4, 2) := by decide +kernel
theorem dL_law_244 : decode cL_law 244 = .ok (.iconst 2, 1) := by decide +kernel
theorem dL_law_245 : decode cL_law 245 = .ok (.iadd, 1) := by decide +kernel
theorem dL_law_246 : decode cL_law 246 = .ok (.iaload, 1) := by decide +kernel
theorem dL_law_247 : decode cL_law 247 = .ok (.aload_n 0, 1) := by decide +kernel
theorem dL_law_248 : decode cL_law 248 = .ok (.iload 4, 2) := by decide +kernel
theorem dL_law_250 : decode cL_law 250 = .ok (.iconst 3, 1) := by decide +kernel
theorem dL_law_251 : decode cL_law 251 = .ok (.iadd, 1) := by decide +kernel
theorem dL_law_252 : decode cL_law 252 = .ok (.iaload, 1) := by decide +kernel
theorem dL_law_253 : decode cL_law 253 = .ok (.aload_n 0, 1) := by decide +kernel
theorem dL_law_254 : decode cL_law 254 = .ok (.iload 4, 2) := by decide +kernel
theorem dL_law_256 : decode cL_law 256 = .ok (.iconst 4, 1) := by decide +kernel
theorem dL_law_257 : decode cL_law 257 = .ok (.iadd, 1) := by decide +kernel
theorem dL_law_258 : decode cL_law 258 = .ok (.iaload, 1) := by decide +kernel
theorem dL_law_259 : decode cL_law 259 = .ok (.aload_n 0, 1) := by decide +kernel
theorem dL_law_260 : decode cL_law 260 = .ok (.iload 4, 2) := by decide +kernel
theorem dL_law_262 : decode cL_law 262 = .ok (.iconst 5, 1) := by decide +kernel
theorem dL_law_263 : decode cL_law 263 = .ok (.iadd, 1) := by decide +kernel
theorem dL_law_264 : decode cL_law 264 = .ok (.iaload, 1) := by decide +kernel
theorem dL_law_265 : decode cL_law 265 = .ok (.invokevirtual 23, 3) := by decide +kernel
theorem dL_law_268 : decode cL_law 268 = .ok (.if_icmp .eq 1019, 3) := by decide +kernel
theorem dL_law_271 : decode cL_law 271 = .ok (.iconst 0, 1) := by decide +kernel
theorem dL_law_272 : decode cL_law 272 = .ok (.ireturn, 1) := by decide +kernel
theorem dL_law_273 : decode cL_law 273 = .ok (.aload_n 1, 1) := by decide +kernel
theorem dL_law_274 : decode cL_law 274 = .ok (.aload_n 0, 1) := by decide +kernel
theorem dL_law_275 : decode cL_law 275 = .ok (.iload 4, 2) := by decide +kernel
theorem dL_law_277 : decode cL_law 277 = .ok (.iconst 1, 1) := by decide +kernel
theorem dL_law_278 : decode cL_law 278 = .ok (.iadd, 1) := by decide +kernel
theorem dL_law_279 : decode cL_law 279 = .ok (.iaload, 1) := by decide +kernel
theorem dL_law_280 : decode cL_law 280 = .ok (.invokevirtual 24, 3) := by decide +kernel
theorem dL_law_283 : decode cL_law 283 = .ok (.aload_n 2, 1) := by decide +kernel
theorem dL_law_284 : decode cL_law 284 = .ok (.aload_n 0, 1) := by decide +kernel
theorem dL_law_285 : decode cL_law 285 = .ok (.iload 4, 2) := by decide +kernel
theorem dL_law_287 : decode cL_law 287 = .ok (.iconst 1, 1) := by decide +kernel
theorem dL_law_288 : decode cL_law 288 = .ok (.iadd, 1) := by decide +kernel
theorem dL_law_289 : decode cL_law 289 = .ok (.iaload, 1) := by decide +kernel
theorem dL_law_290 : decode cL_law 290 = .ok (.invokevirtual 28, 3) := by decide +kernel
theorem dL_law_293 : decode cL_law 293 = .ok (.if_icmp .eq 994, 3) := by decide +kernel
theorem dL_law_296 : decode cL_law 296 = .ok (.iconst 0, 1) := by decide +kernel
theorem dL_law_297 : decode cL_law 297 = .ok (.ireturn, 1) := by decide +kernel
theorem dL_law_298 : decode cL_law 298 = .ok (.aload_n 1, 1) := by decide +kernel
theorem dL_law_299 : decode cL_law 299 = .ok (.invokevirtual 29, 3) := by decide +kernel
theorem dL_law_302 : decode cL_law 302 = .ok (.aload_n 2, 1) := by decide +kernel
theorem dL_law_303 : decode cL_law 303 = .ok (.invokevirtual 33, 3) := by decide +kernel
theorem dL_law_306 : decode cL_law 306 = .ok (.if_icmp .eq 981, 3) := by decide +kernel
theorem dL_law_309 : decode cL_law 309 = .ok (.iconst 0, 1) := by decide +kernel
theorem dL_law_310 : decode cL_law 310 = .ok (.ireturn, 1) := by decide +kernel
theorem dL_law_311 : decode cL_law 311 = .ok (.aload_n 1, 1) := by decide +kernel
theorem dL_law_312 : decode cL_law 312 = .ok (.invokevirtual 34, 3) := by decide +kernel
theorem dL_law_315 : decode cL_law 315 = .ok (.aload_n 2, 1) := by decide +kernel
theorem dL_law_316 : decode cL_law 316 = .ok (.invokevirtual 37, 3) := by decide +kernel
theorem dL_law_319 : decode cL_law 319 = .ok (.if_icmp .eq 968, 3) := by decide +kernel
theorem dL_law_322 : decode cL_law 322 = .ok (.iconst 0, 1) := by decide +kernel
theorem dL_law_323 : decode cL_law 323 = .ok (.ireturn, 1) := by decide +kernel
theorem dL_law_324 : decode cL_law 324 = .ok (.aload_n 1, 1) := by decide +kernel
theorem dL_law_325 : decode cL_law 325 = .ok (.aload_n 0, 1) := by decide +kernel
theorem dL_law_326 : decode cL_law 326 = .ok (.iload 4, 2) := by decide +kernel
theorem dL_law_328 : decode cL_law 328 = .ok (.iconst 1, 1) := by decide +kernel
theorem dL_law_329 : decode cL_law 329 = .ok (.iadd, 1) := by decide +kernel
theorem dL_law_330 : decode cL_law 330 = .ok (.iaload, 1) := by decide +kernel
theorem dL_law_331 : decode cL_law 331 = .ok (.invokevirtual 38, 3) := by decide +kernel
theorem dL_law_334 : decode cL_law 334 = .ok (.aload_n 2, 1) := by decide +kernel
theorem dL_law_335 : decode cL_law 335 = .ok (.aload_n 0, 1) := by decide +kernel
theorem dL_law_336 : decode cL_law 336 = .ok (.iload 4, 2) := by decide +kernel
theorem dL_law_338 : decode cL_law 338 = .ok (.iconst 1, 1) := by decide +kernel
theorem dL_law_339 : decode cL_law 339 = .ok (.iadd, 1) := by decide +kernel
theorem dL_law_340 : decode cL_law 340 = .ok (.iaload, 1) := by decide +kernel
theorem dL_law_341 : decode cL_law 341 = .ok (.invokevirtual 42, 3) := by decide +kernel
theorem dL_law_344 : decode cL_law 344 = .ok (.if_icmp .eq 943, 3) := by decide +kernel
theorem dL_law_347 : decode cL_law 347 = .ok (.iconst 0, 1) := by decide +kernel
theorem dL_law_348 : decode cL_law 348 = .ok (.ireturn, 1) := by decide +kernel
theorem dL_law_349 : decode cL_law 349 = .ok (.aload_n 1, 1) := by decide +kernel
theorem dL_law_350 : decode cL_law 350 = .ok (.aload_n 0, 1) := by decide +kernel
theorem dL_law_351 : decode cL_law 351 = .ok (.iload 4, 2) := by decide +kernel
theorem dL_law_353 : decode cL_law 353 = .ok (.iconst 1, 1) := by decide +kernel
theorem dL_law_354 : decode cL_law 354 = .ok (.iadd, 1) := by decide +kernel
theorem dL_law_355 : decode cL_law 355 = .ok (.iaload, 1) := by decide +kernel
theorem dL_law_356 : decode cL_law 356 = .ok (.aload_n 0, 1) := by decide +kernel
theorem dL_law_357 : decode cL_law 357 = .ok (.iload 4, 2) := by decide +kernel
theorem dL_law_359 : decode cL_law 359 = .ok (.iconst 2, 1) := by decide +kernel
theorem dL_law_360 : decode cL_law 360 = .ok (.iadd, 1) := by decide +kernel
theorem dL_law_361 : decode cL_law 361 = .ok (.iaload, 1) := by decide +kernel
theorem dL_law_362 : decode cL_law 362 = .ok (.aload_n 3, 1) := by decide +kernel
theorem dL_law_363 : decode cL_law 363 = .ok (.invokestatic 43, 3) := by decide +kernel
theorem dL_law_366 : decode cL_law 366 = .ok (.istore 5, 2) := by decide +kernel
theorem dL_law_368 : decode cL_law 368 = .ok (.aload_n 2, 1) := by decide +kernel
theorem dL_law_369 : decode cL_law 369 = .ok (.aload_n 0, 1) := by decide +kernel
theorem dL_law_370 : decode cL_law 370 = .ok (.iload 4, 2) := by decide +kernel
theorem dL_law_372 : decode cL_law 372 = .ok (.iconst 1, 1) := by decide +kernel
theorem dL_law_373 : decode cL_law 373 = .ok (.iadd, 1) := by decide +kernel
theorem dL_law_374 : decode cL_law 374 = .ok (.iaload, 1) := by decide +kernel
theorem dL_law_375 : decode cL_law 375 = .ok (.aload_n 0, 1) := by decide +kernel
theorem dL_law_376 : decode cL_law 376 = .ok (.iload 4, 2) := by decide +kernel
theorem dL_law_378 : decode cL_law 378 = .ok (.iconst 2, 1) := by decide +kernel
theorem dL_law_379 : decode cL_law 379 = .ok (.iadd, 1) := by decide +kernel
theorem dL_law_380 : decode cL_law 380 = .ok (.iaload, 1) := by decide +kernel
theorem dL_law_381 : decode cL_law 381 = .ok (.invokevirtual 48, 3) := by decide +kernel
theorem dL_law_384 : decode cL_law 384 = .ok (.istore 6, 2) := by decide +kernel
theorem dL_law_386 : decode cL_law 386 = .ok (.aload_n 2, 1) := by decide +kernel
theorem dL_law_387 : decode cL_law 387 = .ok (.invokevirtual 49, 3) := by decide +kernel
theorem dL_law_390 : decode cL_law 390 = .ok (.iload 5, 2) := by decide +kernel
theorem dL_law_392 : decode cL_law 392 = .ok (.if_icmp .eq 5, 3) := by decide +kernel
theorem dL_law_395 : decode cL_law 395 = .ok (.iconst 0, 1) := by decide +kernel
theorem dL_law_396 : decode cL_law 396 = .ok (.ireturn, 1) := by decide +kernel
theorem dL_law_397 : decode cL_law 397 = .ok (.iload 5, 2) := by decide +kernel
theorem dL_law_399 : decode cL_law 399 = .ok (.ifCond .ne 15, 3) := by decide +kernel
theorem dL_law_402 : decode cL_law 402 = .ok (.aload_n 3, 1) := by decide +kernel
theorem dL_law_403 : decode cL_law 403 = .ok (.iconst 0, 1) := by decide +kernel
theorem dL_law_404 : decode cL_law 404 = .ok (.laload, 1) := by decide +kernel
theorem dL_law_405 : decode cL_law 405 = .ok (.iload 6, 2) := by decide +kernel
theorem dL_law_407 : decode cL_law 407 = .ok (.i2l, 1) := by decide +kernel
theorem dL_law_408 : decode cL_law 408 = .ok (.lcmp, 1) := by decide +kernel
theorem dL_law_409 : decode cL_law 409 = .ok (.ifCond .eq 5, 3) := by decide +kernel
theorem dL_law_412 : decode cL_law 412 = .ok (.iconst 0, 1) := by decide +kernel
theorem dL_law_413 : decode cL_law 413 = .ok (.ireturn, 1) := by decide +kernel
theorem dL_law_414 : decode cL_law 414 = .ok (.goto 873, 3) := by decide +kernel
theorem dL_law_417 : decode cL_law 417 = .ok (.aload_n 1, 1) := by decide +kernel
theorem dL_law_418 : decode cL_law 418 = .ok (.aload_n 0, 1) := by decide +kernel
theorem dL_law_419 : decode cL_law 419 = .ok (.iload 4, 2) := by decide +kernel
theorem dL_law_421 : decode cL_law 421 = .ok (.iconst 1, 1) := by decide +kernel
theorem dL_law_422 : decode cL_law 422 = .ok (.iadd, 1) := by decide +kernel
theorem dL_law_423 : decode cL_law 423 = .ok (.iaload, 1) := by decide +kernel
theorem dL_law_424 : decode cL_law 424 = .ok (.aload_n 0, 1) := by decide +kernel
theorem dL_law_425 : decode cL_law 425 = .ok (.iload 4, 2) := by decide +kernel
theorem dL_law_427 : decode cL_law 427 = .ok (.iconst 2, 1) := by decide +kernel
theorem dL_law_428 : decode cL_law 428 = .ok (.iadd, 1) := by decide +kernel
theorem dL_law_429 : decode cL_law 429 = .ok (.iaload, 1) := by decide +kernel
theorem dL_law_430 : decode cL_law 430 = .ok (.invokevirtual 52, 3) := by decide +kernel
theorem dL_law_433 : decode cL_law 433 = .ok (.aload_n 2, 1) := by decide +kernel
theorem dL_law_434 : decode cL_law 434 = .ok (.aload_n 0, 1) := by decide +kernel
theorem dL_law_435 : decode cL_law 435 = .ok (.iload 4, 2) := by decide +kernel
theorem dL_law_437 : decode cL_law 437 = .ok (.iconst 1, 1) := by decide +kernel
theorem dL_law_438 : decode cL_law 438 = .ok (.iadd, 1) := by decide +kernel
theorem dL_law_439 : decode cL_law 439 = .ok (.iaload, 1) := by decide +kernel
theorem dL_law_440 : decode cL_law 440 = .ok (.aload_n 0, 1) := by decide +kernel
theorem dL_law_441 : decode cL_law 441 = .ok (.iload 4, 2) := by decide +kernel
theorem dL_law_443 : decode cL_law 443 = .ok (.iconst 2, 1) := by decide +kernel
theorem dL_law_444 : decode cL_law 444 = .ok (.iadd, 1) := by decide +kernel
theorem dL_law_445 : decode cL_law 445 = .ok (.iaload, 1) := by decide +kernel
theorem dL_law_446 : decode cL_law 446 = .ok (.invokevirtual 55, 3) := by decide +kernel
theorem dL_law_449 : decode cL_law 449 = .ok (.if_icmp .eq 838, 3) := by decide +kernel
theorem dL_law_452 : decode cL_law 452 = .ok (.iconst 0, 1) := by decide +kernel
theorem dL_law_453 : decode cL_law 453 = .ok (.ireturn, 1) := by decide +kernel
theorem dL_law_454 : decode cL_law 454 = .ok (.aload_n 1, 1) := by decide +kernel
theorem dL_law_455 : decode cL_law 455 = .ok (.aload_n 0, 1) := by decide +kernel
theorem dL_law_456 : decode cL_law 456 = .ok (.iload 4, 2) := by decide +kernel
theorem dL_law_458 : decode cL_law 458 = .ok (.iconst 1, 1) := by decide +kernel
theorem dL_law_459 : decode cL_law 459 = .ok (.iadd, 1) := by decide +kernel
theorem dL_law_460 : decode cL_law 460 = .ok (.iaload, 1) := by decide +kernel
theorem dL_law_461 : decode cL_law 461 = .ok (.aload_n 0, 1) := by decide +kernel
theorem dL_law_462 : decode cL_law 462 = .ok (.iload 4, 2) := by decide +kernel
theorem dL_law_464 : decode cL_law 464 = .ok (.iconst 2, 1) := by decide +kernel
theorem dL_law_465 : decode cL_law 465 = .ok (.iadd, 1) := by decide +kernel
theorem dL_law_466 : decode cL_law 466 = .ok (.iaload, 1) := by decide +kernel
theorem dL_law_467 : decode cL_law 467 = .ok (.aload_n 0, 1) := by decide +kernel
theorem dL_law_468 : decode cL_law 468 = .ok (.iload 4, 2) := by decide +kernel
theorem dL_law_470 : decode cL_law 470 = .ok (.iconst 3, 1) := by decide +kernel
theorem dL_law_471 : decode cL_law 471 = .ok (.iadd, 1) := by decide +kernel
theorem dL_law_472 : decode cL_law 472 = .ok (.iaload, 1) := by decide +kernel
theorem dL_law_473 : decode cL_law 473 = .ok (.invokevirtual 56, 3) := by decide +kernel
theorem dL_law_476 : decode cL_law 476 = .ok (.aload_n 2, 1) := by decide +kernel
theorem dL_law_477 : decode cL_law 477 = .ok (.aload_n 0, 1) := by decide +kernel
theorem dL_law_478 : decode cL_law 478 = .ok (.iload 4, 2) := by decide +kernel
theorem dL_law_480 : decode cL_law 480 = .ok (.iconst 1, 1) := by decide +kernel
theorem dL_law_481 : decode cL_law 481 = .ok (.iadd, 1) := by decide +kernel
theorem dL_law_482 : decode cL_law 482 = .ok (.iaload, 1) := by decide +kernel
theorem dL_law_483 : decode cL_law 483 = .ok (.aload_n 0, 1) := by decide +kernel
theorem dL_law_484 : decode cL_law 484 = .ok (.iload 4, 2) := by decide +kernel
theorem dL_law_486 : decode cL_law 486 = .ok (.iconst 2, 1) := by decide +kernel
theorem dL_law_487 : decode cL_law 487 = .ok (.iadd, 1) := by decide +kernel
theorem dL_law_488 : decode cL_law 488 = .ok (.iaload, 1) := by decide +kernel
theorem dL_law_489 : decode cL_law 489 = .ok (.aload_n 0, 1) := by decide +kernel
theorem dL_law_490 : decode cL_law 490 = .ok (.iload 4, 2) := by decide +kernel
theorem dL_law_492 : decode cL_law 492 = .ok (.iconst 3, 1) := by decide +kernel
theorem dL_law_493 : decode cL_law 493 = .ok (.iadd, 1) := by decide +kernel
theorem dL_law_494 : decode cL_law 494 = .ok (.iaload, 1) := by decide +kernel
theorem dL_law_495 : decode cL_law 495 = .ok (.invokevirtual 60, 3) := by decide +kernel
theorem dL_law_498 : decode cL_law 498 = .ok (.if_icmp .eq 789, 3) := by decide +kernel
theorem dL_law_501 : decode cL_law 501 = .ok (.iconst 0, 1) := by decide +kernel
theorem dL_law_502 : decode cL_law 502 = .ok (.ireturn, 1) := by decide +kernel
theorem dL_law_503 : decode cL_law 503 = .ok (.aload_n 1, 1) := by decide +kernel
theorem dL_law_504 : decode cL_law 504 = .ok (.aload_n 0, 1) := by decide +kernel
theorem dL_law_505 : decode cL_law 505 = .ok (.iload 4, 2) := by decide +kernel
theorem dL_law_507 : decode cL_law 507 = .ok (.iconst 1, 1) := by decide +kernel
theorem dL_law_508 : decode cL_law 508 = .ok (.iadd, 1) := by decide +kernel
theorem dL_law_509 : decode cL_law 509 = .ok (.iaload, 1) := by decide +kernel
theorem dL_law_510 : decode cL_law 510 = .ok (.invokevirtual 61, 3) := by decide +kernel
theorem dL_law_513 : decode cL_law 513 = .ok (.aload_n 2, 1) := by decide +kernel
theorem dL_law_514 : decode cL_law 514 = .ok (.aload_n 0, 1) := by decide +kernel
theorem dL_law_515 : decode cL_law 515 = .ok (.iload 4, 2) := by decide +kernel
theorem dL_law_517 : decode cL_law 517 = .ok (.iconst 1, 1) := by decide +kernel
theorem dL_law_518 : decode cL_law 518 = .ok (.iadd, 1) := by decide +kernel
theorem dL_law_519 : decode cL_law 519 = .ok (.iaload, 1) := by decide +kernel
theorem dL_law_520 : decode cL_law 520 = .ok (.invokevirtual 64, 3) := by decide +kernel
theorem dL_law_523 : decode cL_law 523 = .ok (.if_icmp .eq 764, 3) := by decide +kernel
theorem dL_law_526 : decode cL_law 526 = .ok (.iconst 0, 1) := by decide +kernel
theorem dL_law_527 : decode cL_law 527 = .ok (.ireturn, 1) := by decide +kernel
theorem dL_law_528 : decode cL_law 528 = .ok (.aload_n 1, 1) := by decide +kernel
theorem dL_law_529 : decode cL_law 529 = .ok (.aload_n 0, 1) := by decide +kernel
theorem dL_law_530 : decode cL_law 530 = .ok (.iload 4, 2) := by decide +kernel
theorem dL_law_532 : decode cL_law 532 = .ok (.iconst 1, 1) := by decide +kernel
theorem dL_law_533 : decode cL_law 533 = .ok (.iadd, 1) := by decide +kernel
theorem dL_law_534 : decode cL_law 534 = .ok (.iaload, 1) := by decide +kernel
theorem dL_law_535 : decode cL_law 535 = .ok (.invokevirtual 65, 3) := by decide +kernel
theorem dL_law_538 : decode cL_law 538 = .ok (.aload_n 2, 1) := by decide +kernel
theorem dL_law_539 : decode cL_law 539 = .ok (.aload_n 0, 1) := by decide +kernel
theorem dL_law_540 : decode cL_law 540 = .ok (.iload 4, 2) := by decide +kernel
theorem dL_law_542 : decode cL_law 542 = .ok (.iconst 1, 1) := by decide +kernel
theorem dL_law_543 : decode cL_law 543 = .ok (.iadd, 1) := by decide +kernel
theorem dL_law_544 : decode cL_law 544 = .ok (.iaload, 1) := by decide +kernel
theorem dL_law_545 : decode cL_law 545 = .ok (.invokevirtual 68, 3) := by decide +kernel
theorem dL_law_548 : decode cL_law 548 = .ok (.if_icmp .eq 739, 3) := by decide +kernel
theorem dL_law_551 : decode cL_law 551 = .ok (.iconst 0, 1) := by decide +kernel
theorem dL_law_552 : decode cL_law 552 = .ok (.ireturn, 1) := by decide +kernel
theorem dL_law_553 : decode cL_law 553 = .ok (.aload_n 1, 1) := by decide +kernel
theorem dL_law_554 : decode cL_law 554 = .ok (.aload_n 0, 1) := by decide +kernel
theorem dL_law_555 : decode cL_law 555 = .ok (.iload 4, 2) := by decide +kernel
theorem dL_law_557 : decode cL_law 557 = .ok (.iconst 1, 1) := by decide +kernel
theorem dL_law_558 : decode cL_law 558 = .ok (.iadd, 1) := by decide +kernel
theorem dL_law_559 : decode cL_law 559 = .ok (.iaload, 1) := by decide +kernel
theorem dL_law_560 : decode cL_law 560 = .ok (.invokevirtual 69, 3) := by decide +kernel
theorem dL_law_563 : decode cL_law 563 = .ok (.aload_n 2, 1) := by decide +kernel
theorem dL_law_564 : decode cL_law 564 = .ok (.aload_n 0, 1) := by decide +kernel
theorem dL_law_565 : decode cL_law 565 = .ok (.iload 4, 2) := by decide +kernel
theorem dL_law_567 : decode cL_law 567 = .ok (.iconst 1, 1) := by decide +kernel
theorem dL_law_568 : decode cL_law 568 = .ok (.iadd, 1) := by decide +kernel
theorem dL_law_569 : decode cL_law 569 = .ok (.iaload, 1) := by decide +kernel
theorem dL_law_570 : decode cL_law 570 = .ok (.invokevirtual 72, 3) := by decide +kernel
theorem dL_law_573 : decode cL_law 573 = .ok (.if_icmp .eq 714, 3) := by decide +kernel
theorem dL_law_576 : decode cL_law 576 = .ok (.iconst 0, 1) := by decide +kernel
theorem dL_law_577 : decode cL_law 577 = .ok (.ireturn, 1) := by decide +kernel
theorem dL_law_578 : decode cL_law 578 = .ok (.aload_n 1, 1) := by decide +kernel
theorem dL_law_579 : decode cL_law 579 = .ok (.aload_n 0, 1) := by decide +kernel
theorem dL_law_580 : decode cL_law 580 = .ok (.iload 4, 2) := by decide +kernel
theorem dL_law_582 : decode cL_law 582 = .ok (.iconst 1, 1) := by decide +kernel
theorem dL_law_583 : decode cL_law 583 = .ok (.iadd, 1) := by decide +kernel
theorem dL_law_584 : decode cL_law 584 = .ok (.iaload, 1) := by decide +kernel
theorem dL_law_585 : decode cL_law 585 = .ok (.aload_n 0, 1) := by decide +kernel
theorem dL_law_586 : decode cL_law 586 = .ok (.iload 4, 2) := by decide +kernel
theorem dL_law_588 : decode cL_law 588 = .ok (.iconst 2, 1) := by decide +kernel
theorem dL_law_589 : decode cL_law 589 = .ok (.iadd, 1) := by decide +kernel
theorem dL_law_590 : decode cL_law 590 = .ok (.iaload, 1) := by decide +kernel
theorem dL_law_591 : decode cL_law 591 = .ok (.invokevirtual 73, 3) := by decide +kernel
theorem dL_law_594 : decode cL_law 594 = .ok (.aload_n 2, 1) := by decide +kernel
theorem dL_law_595 : decode cL_law 595 = .ok (.aload_n 0, 1) := by decide +kernel
theorem dL_law_596 : decode cL_law 596 = .ok (.iload 4, 2) := by decide +kernel
theorem dL_law_598 : decode cL_law 598 = .ok (.iconst 1, 1) := by decide +kernel
theorem dL_law_599 : decode cL_law 599 = .ok (.iadd, 1) := by decide +kernel
theorem dL_law_600 : decode cL_law 600 = .ok (.iaload, 1) := by decide +kernel
theorem dL_law_601 : decode cL_law 601 = .ok (.aload_n 0, 1) := by decide +kernel
theorem dL_law_602 : decode cL_law 602 = .ok (.iload 4, 2) := by decide +kernel
theorem dL_law_604 : decode cL_law 604 = .ok (.iconst 2, 1) := by decide +kernel
theorem dL_law_605 : decode cL_law 605 = .ok (.iadd, 1) := by decide +kernel
theorem dL_law_606 : decode cL_law 606 = .ok (.iaload, 1) := by decide +kernel
theorem dL_law_607 : decode cL_law 607 = .ok (.invokevirtual 76, 3) := by decide +kernel
theorem dL_law_610 : decode cL_law 610 = .ok (.if_icmp .eq 677, 3) := by decide +kernel
theorem dL_law_613 : decode cL_law 613 = .ok (.iconst 0, 1) := by decide +kernel
theorem dL_law_614 : decode cL_law 614 = .ok (.ireturn, 1) := by decide +kernel
theorem dL_law_615 : decode cL_law 615 = .ok (.aload_n 1, 1) := by decide +kernel
theorem dL_law_616 : decode cL_law 616 = .ok (.aload_n 0, 1) := by decide +kernel
theorem dL_law_617 : decode cL_law 617 = .ok (.iload 4, 2) := by decide +kernel
theorem dL_law_619 : decode cL_law 619 = .ok (.iconst 1, 1) := by decide +kernel
theorem dL_law_620 : decode cL_law 620 = .ok (.iadd, 1) := by decide +kernel
theorem dL_law_621 : decode cL_law 621 = .ok (.iaload, 1) := by decide +kernel
theorem dL_law_622 : decode cL_law 622 = .ok (.aload_n 0, 1) := by decide +kernel
theorem dL_law_623 : decode cL_law 623 = .ok (.iload 4, 2) := by decide +kernel
theorem dL_law_625 : decode cL_law 625 = .ok (.iconst 2, 1) := by decide +kernel
theorem dL_law_626 : decode cL_law 626 = .ok (.iadd, 1) := by decide +kernel
theorem dL_law_627 : decode cL_law 627 = .ok (.iaload, 1) := by decide +kernel
theorem dL_law_628 : decode cL_law 628 = .ok (.aload_n 0, 1) := by decide +kernel
theorem dL_law_629 : decode cL_law 629 = .ok (.iload 4, 2) := by decide +kernel
theorem dL_law_631 : decode cL_law 631 = .ok (.iconst 3, 1) := by decide +kernel
theorem dL_law_632 : decode cL_law 632 = .ok (.iadd, 1) := by decide +kernel
theorem dL_law_633 : decode cL_law 633 = .ok (.iaload, 1) := by decide +kernel
theorem dL_law_634 : decode cL_law 634 = .ok (.aload_n 0, 1) := by decide +kernel
theorem dL_law_635 : decode cL_law 635 = .ok (.iload 4, 2) := by decide +kernel
theorem dL_law_637 : decode cL_law 637 = .ok (.iconst 4, 1) := by decide +kernel
theorem dL_law_638 : decode cL_law 638 = .ok (.iadd, 1) := by decide +kernel
theorem dL_law_639 : decode cL_law 639 = .ok (.iaload, 1) := by decide +kernel
theorem dL_law_640 : decode cL_law 640 = .ok (.invokevirtual 77, 3) := by decide +kernel
theorem dL_law_643 : decode cL_law 643 = .ok (.aload_n 2, 1) := by decide +kernel
theorem dL_law_644 : decode cL_law 644 = .ok (.aload_n 0, 1) := by decide +kernel
theorem dL_law_645 : decode cL_law 645 = .ok (.iload 4, 2) := by decide +kernel
theorem dL_law_647 : decode cL_law 647 = .ok (.iconst 1, 1) := by decide +kernel
theorem dL_law_648 : decode cL_law 648 = .ok (.iadd, 1) := by decide +kernel
theorem dL_law_649 : decode cL_law 649 = .ok (.iaload, 1) := by decide +kernel
theorem dL_law_650 : decode cL_law 650 = .ok (.aload_n 0, 1) := by decide +kernel
theorem dL_law_651 : decode cL_law 651 = .ok (.iload 4, 2) := by decide +kernel
theorem dL_law_653 : decode cL_law 653 = .ok (.iconst 2, 1) := by decide +kernel
theorem dL_law_654 : decode cL_law 654 = .ok (.iadd, 1) := by decide +kernel
theorem dL_law_655 : decode cL_law 655 = .ok (.iaload, 1) := by decide +kernel
theorem dL_law_656 : decode cL_law 656 = .ok (.aload_n 0, 1) := by decide +kernel
theorem dL_law_657 : decode cL_law 657 = .ok (.iload 4, 2) := by decide +kernel
theorem dL_law_659 : decode cL_law 659 = .ok (.iconst 3, 1) := by decide +kernel
theorem dL_law_660 : decode cL_law 660 = .ok (.iadd, 1) := by decide +kernel
theorem dL_law_661 : decode cL_law 661 = .ok (.iaload, 1) := by decide +kernel
theorem dL_law_662 : decode cL_law 662 = .ok (.aload_n 0, 1) := by decide +kernel
theorem dL_law_663 : decode cL_law 663 = .ok (.iload 4, 2) := by decide +kernel
theorem dL_law_665 : decode cL_law 665 = .ok (.iconst 4, 1) := by decide +kernel
theorem dL_law_666 : decode cL_law 666 = .ok (.iadd, 1) := by decide +kernel
theorem dL_law_667 : decode cL_law 667 = .ok (.iaload, 1) := by decide +kernel
theorem dL_law_668 : decode cL_law 668 = .ok (.invokevirtual 81, 3) := by decide +kernel
theorem dL_law_671 : decode cL_law 671 = .ok (.if_icmp .eq 616, 3) := by decide +kernel
theorem dL_law_674 : decode cL_law 674 = .ok (.iconst 0, 1) := by decide +kernel
theorem dL_law_675 : decode cL_law 675 = .ok (.ireturn, 1) := by decide +kernel
theorem dL_law_676 : decode cL_law 676 = .ok (.aload_n 1, 1) := by decide +kernel
theorem dL_law_677 : decode cL_law 677 = .ok (.aload_n 0, 1) := by decide +kernel
theorem dL_law_678 : decode cL_law 678 = .ok (.iload 4, 2) := by decide +kernel
theorem dL_law_680 : decode cL_law 680 = .ok (.iconst 1, 1) := by decide +kernel
theorem dL_law_681 : decode cL_law 681 = .ok (.iadd, 1) := by decide +kernel
theorem dL_law_682 : decode cL_law 682 = .ok (.iaload, 1) := by decide +kernel
theorem dL_law_683 : decode cL_law 683 = .ok (.invokevirtual 82, 3) := by decide +kernel
theorem dL_law_686 : decode cL_law 686 = .ok (.aload_n 2, 1) := by decide +kernel
theorem dL_law_687 : decode cL_law 687 = .ok (.aload_n 0, 1) := by decide +kernel
theorem dL_law_688 : decode cL_law 688 = .ok (.iload 4, 2) := by decide +kernel
theorem dL_law_690 : decode cL_law 690 = .ok (.iconst 1, 1) := by decide +kernel
theorem dL_law_691 : decode cL_law 691 = .ok (.iadd, 1) := by decide +kernel
theorem dL_law_692 : decode cL_law 692 = .ok (.iaload, 1) := by decide +kernel
theorem dL_law_693 : decode cL_law 693 = .ok (.invokevirtual 85, 3) := by decide +kernel
theorem dL_law_696 : decode cL_law 696 = .ok (.if_icmp .eq 591, 3) := by decide +kernel
theorem dL_law_699 : decode cL_law 699 = .ok (.iconst 0, 1) := by decide +kernel
theorem dL_law_700 : decode cL_law 700 = .ok (.ireturn, 1) := by decide +kernel
theorem dL_law_701 : decode cL_law 701 = .ok (.aload_n 1, 1) := by decide +kernel
theorem dL_law_702 : decode cL_law 702 = .ok (.aload_n 0, 1) := by decide +kernel
theorem dL_law_703 : decode cL_law 703 = .ok (.iload 4, 2) := by decide +kernel
theorem dL_law_705 : decode cL_law 705 = .ok (.iconst 1, 1) := by decide +kernel
theorem dL_law_706 : decode cL_law 706 = .ok (.iadd, 1) := by decide +kernel
theorem dL_law_707 : decode cL_law 707 = .ok (.iaload, 1) := by decide +kernel
theorem dL_law_708 : decode cL_law 708 = .ok (.aload_n 0, 1) := by decide +kernel
theorem dL_law_709 : decode cL_law 709 = .ok (.iload 4, 2) := by decide +kernel
theorem dL_law_711 : decode cL_law 711 = .ok (.iconst 2, 1) := by decide +kernel
theorem dL_law_712 : decode cL_law 712 = .ok (.iadd, 1) := by decide +kernel
theorem dL_law_713 : decode cL_law 713 = .ok (.iaload, 1) := by decide +kernel
theorem dL_law_714 : decode cL_law 714 = .ok (.invokevirtual 86, 3) := by decide +kernel
theorem dL_law_717 : decode cL_law 717 = .ok (.aload_n 2, 1) := by decide +kernel
theorem dL_law_718 : decode cL_law 718 = .ok (.aload_n 0, 1) := by decide +kernel
theorem dL_law_719 : decode cL_law 719 = .ok (.iload 4, 2) := by decide +kernel
theorem dL_law_721 : decode cL_law 721 = .ok (.iconst 1, 1) := by decide +kernel
theorem dL_law_722 : decode cL_law 722 = .ok (.iadd, 1) := by decide +kernel
theorem dL_law_723 : decode cL_law 723 = .ok (.iaload, 1) := by decide +kernel
theorem dL_law_724 : decode cL_law 724 = .ok (.aload_n 0, 1) := by decide +kernel
theorem dL_law_725 : decode cL_law 725 = .ok (.iload 4, 2) := by decide +kernel
theorem dL_law_727 : decode cL_law 727 = .ok (.iconst 2, 1) := by decide +kernel
theorem dL_law_728 : decode cL_law 728 = .ok (.iadd, 1) := by decide +kernel
theorem dL_law_729 : decode cL_law 729 = .ok (.iaload, 1) := by decide +kernel
theorem dL_law_730 : decode cL_law 730 = .ok (.invokevirtual 89, 3) := by decide +kernel
theorem dL_law_733 : decode cL_law 733 = .ok (.if_icmp .eq 554, 3) := by decide +kernel
theorem dL_law_736 : decode cL_law 736 = .ok (.iconst 0, 1) := by decide +kernel
theorem dL_law_737 : decode cL_law 737 = .ok (.ireturn, 1) := by decide +kernel
theorem dL_law_738 : decode cL_law 738 = .ok (.aload_n 1, 1) := by decide +kernel
theorem dL_law_739 : decode cL_law 739 = .ok (.invokevirtual 90, 3) := by decide +kernel
theorem dL_law_742 : decode cL_law 742 = .ok (.aload_n 2, 1) := by decide +kernel
theorem dL_law_743 : decode cL_law 743 = .ok (.invokevirtual 93, 3) := by decide +kernel
theorem dL_law_746 : decode cL_law 746 = .ok (.if_icmp .eq 541, 3) := by decide +kernel
theorem dL_law_749 : decode cL_law 749 = .ok (.iconst 0, 1) := by decide +kernel
theorem dL_law_750 : decode cL_law 750 = .ok (.ireturn, 1) := by decide +kernel
theorem dL_law_751 : decode cL_law 751 = .ok (.aload_n 1, 1) := by decide +kernel
theorem dL_law_752 : decode cL_law 752 = .ok (.aload_n 0, 1) := by decide +kernel
theorem dL_law_753 : decode cL_law 753 = .ok (.iload 4, 2) := by decide +kernel
theorem dL_law_755 : decode cL_law 755 = .ok (.iconst 1, 1) := by decide +kernel
theorem dL_law_756 : decode cL_law 756 = .ok (.iadd, 1) := by decide +kernel
theorem dL_law_757 : decode cL_law 757 = .ok (.iaload, 1) := by decide +kernel
theorem dL_law_758 : decode cL_law 758 = .ok (.aload_n 0, 1) := by decide +kernel
theorem dL_law_759 : decode cL_law 759 = .ok (.iload 4, 2) := by decide +kernel
theorem dL_law_761 : decode cL_law 761 = .ok (.iconst 2, 1) := by decide +kernel
theorem dL_law_762 : decode cL_law 762 = .ok (.iadd, 1) := by decide +kernel
theorem dL_law_763 : decode cL_law 763 = .ok (.iaload, 1) := by decide +kernel
theorem dL_law_764 : decode cL_law 764 = .ok (.aload_n 0, 1) := by decide +kernel
theorem dL_law_765 : decode cL_law 765 = .ok (.iload 4, 2) := by decide +kernel
theorem dL_law_767 : decode cL_law 767 = .ok (.iconst 3, 1) := by decide +kernel
theorem dL_law_768 : decode cL_law 768 = .ok (.iadd, 1) := by decide +kernel
theorem dL_law_769 : decode cL_law 769 = .ok (.iaload, 1) := by decide +kernel
theorem dL_law_770 : decode cL_law 770 = .ok (.invokevirtual 94, 3) := by decide +kernel
theorem dL_law_773 : decode cL_law 773 = .ok (.aload_n 2, 1) := by decide +kernel
theorem dL_law_774 : decode cL_law 774 = .ok (.aload_n 0, 1) := by decide +kernel
theorem dL_law_775 : decode cL_law 775 = .ok (.iload 4, 2) := by decide +kernel
theorem dL_law_777 : decode cL_law 777 = .ok (.iconst 1, 1) := by decide +kernel
theorem dL_law_778 : decode cL_law 778 = .ok (.iadd, 1) := by decide +kernel
theorem dL_law_779 : decode cL_law 779 = .ok (.iaload, 1) := by decide +kernel
theorem dL_law_780 : decode cL_law 780 = .ok (.aload_n 0, 1) := by decide +kernel
theorem dL_law_781 : decode cL_law 781 = .ok (.iload 4, 2) := by decide +kernel
theorem dL_law_783 : decode cL_law 783 = .ok (.iconst 2, 1) := by decide +kernel
theorem dL_law_784 : decode cL_law 784 = .ok (.iadd, 1) := by decide +kernel
theorem dL_law_785 : decode cL_law 785 = .ok (.iaload, 1) := by decide +kernel
theorem dL_law_786 : decode cL_law 786 = .ok (.aload_n 0, 1) := by decide +kernel
theorem dL_law_787 : decode cL_law 787 = .ok (.iload 4, 2) := by decide +kernel
theorem dL_law_789 : decode cL_law 789 = .ok (.iconst 3, 1) := by decide +kernel
theorem dL_law_790 : decode cL_law 790 = .ok (.iadd, 1) := by decide +kernel
theorem dL_law_791 : decode cL_law 791 = .ok (.iaload, 1) := by decide +kernel
theorem dL_law_792 : decode cL_law 792 = .ok (.invokevirtual 97, 3) := by decide +kernel
theorem dL_law_795 : decode cL_law 795 = .ok (.if_icmp .eq 492, 3) := by decide +kernel
theorem dL_law_798 : decode cL_law 798 = .ok (.iconst 0, 1) := by decide +kernel
theorem dL_law_799 : decode cL_law 799 = .ok (.ireturn, 1) := by decide +kernel
theorem dL_law_800 : decode cL_law 800 = .ok (.aload_n 1, 1) := by decide +kernel
theorem dL_law_801 : decode cL_law 801 = .ok (.aload_n 0, 1) := by decide +kernel
theorem dL_law_802 : decode cL_law 802 = .ok (.iload 4, 2) := by decide +kernel
theorem dL_law_804 : decode cL_law 804 = .ok (.iconst 1, 1) := by decide +kernel
theorem dL_law_805 : decode cL_law 805 = .ok (.iadd, 1) := by decide +kernel
theorem dL_law_806 : decode cL_law 806 = .ok (.iaload, 1) := by decide +kernel
theorem dL_law_807 : decode cL_law 807 = .ok (.aload_n 0, 1) := by decide +kernel
theorem dL_law_808 : decode cL_law 808 = .ok (.iload 4, 2) := by decide +kernel
theorem dL_law_810 : decode cL_law 810 = .ok (.iconst 2, 1) := by decide +kernel
theorem dL_law_811 : decode cL_law 811 = .ok (.iadd, 1) := by decide +kernel
theorem dL_law_812 : decode cL_law 812 = .ok (.iaload, 1) := by decide +kernel
theorem dL_law_813 : decode cL_law 813 = .ok (.aload_n 0, 1) := by decide +kernel
theorem dL_law_814 : decode cL_law 814 = .ok (.iload 4, 2) := by decide +kernel
theorem dL_law_816 : decode cL_law 816 = .ok (.iconst 3, 1) := by decide +kernel
theorem dL_law_817 : decode cL_law 817 = .ok (.iadd, 1) := by decide +kernel
theorem dL_law_818 : decode cL_law 818 = .ok (.iaload, 1) := by decide +kernel
theorem dL_law_819 : decode cL_law 819 = .ok (.invokevirtual 98, 3) := by decide +kernel
theorem dL_law_822 : decode cL_law 822 = .ok (.aload_n 2, 1) := by decide +kernel
theorem dL_law_823 : decode cL_law 823 = .ok (.aload_n 0, 1) := by decide +kernel
theorem dL_law_824 : decode cL_law 824 = .ok (.iload 4, 2) := by decide +kernel
theorem dL_law_826 : decode cL_law 826 = .ok (.iconst 1, 1) := by decide +kernel
theorem dL_law_827 : decode cL_law 827 = .ok (.iadd, 1) := by decide +kernel
theorem dL_law_828 : decode cL_law 828 = .ok (.iaload, 1) := by decide +kernel
theorem dL_law_829 : decode cL_law 829 = .ok (.aload_n 0, 1) := by decide +kernel
theorem dL_law_830 : decode cL_law 830 = .ok (.iload 4, 2) := by decide +kernel
theorem dL_law_832 : decode cL_law 832 = .ok (.iconst 2, 1) := by decide +kernel
theorem dL_law_833 : decode cL_law 833 = .ok (.iadd, 1) := by decide +kernel
theorem dL_law_834 : decode cL_law 834 = .ok (.iaload, 1) := by decide +kernel
theorem dL_law_835 : decode cL_law 835 = .ok (.aload_n 0, 1) := by decide +kernel
theorem dL_law_836 : decode cL_law 836 = .ok (.iload 4, 2) := by decide +kernel
theorem dL_law_838 : decode cL_law 838 = .ok (.iconst 3, 1) := by decide +kernel
theorem dL_law_839 : decode cL_law 839 = .ok (.iadd, 1) := by decide +kernel
theorem dL_law_840 : decode cL_law 840 = .ok (.iaload, 1) := by decide +kernel
theorem dL_law_841 : decode cL_law 841 = .ok (.invokevirtual 101, 3) := by decide +kernel
theorem dL_law_844 : decode cL_law 844 = .ok (.if_icmp .eq 443, 3) := by decide +kernel
theorem dL_law_847 : decode cL_law 847 = .ok (.iconst 0, 1) := by decide +kernel
theorem dL_law_848 : decode cL_law 848 = .ok (.ireturn, 1) := by decide +kernel
theorem dL_law_849 : decode cL_law 849 = .ok (.aload_n 1, 1) := by decide +kernel
theorem dL_law_850 : decode cL_law 850 = .ok (.invokevirtual 102, 3) := by decide +kernel
theorem dL_law_853 : decode cL_law 853 = .ok (.aload_n 2, 1) := by decide +kernel
theorem dL_law_854 : decode cL_law 854 = .ok (.invokevirtual 105, 3) := by decide +kernel
theorem dL_law_857 : decode cL_law 857 = .ok (.if_icmp .eq 430, 3) := by decide +kernel
theorem dL_law_860 : decode cL_law 860 = .ok (.iconst 0, 1) := by decide +kernel
theorem dL_law_861 : decode cL_law 861 = .ok (.ireturn, 1) := by decide +kernel
theorem dL_law_862 : decode cL_law 862 = .ok (.aload_n 1, 1) := by decide +kernel
theorem dL_law_863 : decode cL_law 863 = .ok (.aload_n 0, 1) := by decide +kernel
theorem dL_law_864 : decode cL_law 864 = .ok (.iload 4, 2) := by decide +kernel
theorem dL_law_866 : decode cL_law 866 = .ok (.iconst 1, 1) := by decide +kernel
theorem dL_law_867 : decode cL_law 867 = .ok (.iadd, 1) := by decide +kernel
theorem dL_law_868 : decode cL_law 868 = .ok (.iaload, 1) := by decide +kernel
theorem dL_law_869 : decode cL_law 869 = .ok (.aload_n 0, 1) := by decide +kernel
theorem dL_law_870 : decode cL_law 870 = .ok (.iload 4, 2) := by decide +kernel
theorem dL_law_872 : decode cL_law 872 = .ok (.iconst 2, 1) := by decide +kernel
theorem dL_law_873 : decode cL_law 873 = .ok (.iadd, 1) := by decide +kernel
theorem dL_law_874 : decode cL_law 874 = .ok (.iaload, 1) := by decide +kernel
theorem dL_law_875 : decode cL_law 875 = .ok (.aload_n 0, 1) := by decide +kernel
theorem dL_law_876 : decode cL_law 876 = .ok (.iload 4, 2) := by decide +kernel
theorem dL_law_878 : decode cL_law 878 = .ok (.iconst 3, 1) := by decide +kernel
theorem dL_law_879 : decode cL_law 879 = .ok (.iadd, 1) := by decide +kernel
theorem dL_law_880 : decode cL_law 880 = .ok (.iaload, 1) := by decide +kernel
theorem dL_law_881 : decode cL_law 881 = .ok (.invokevirtual 106, 3) := by decide +kernel
theorem dL_law_884 : decode cL_law 884 = .ok (.aload_n 2, 1) := by decide +kernel
theorem dL_law_885 : decode cL_law 885 = .ok (.aload_n 0, 1) := by decide +kernel
theorem dL_law_886 : decode cL_law 886 = .ok (.iload 4, 2) := by decide +kernel
theorem dL_law_888 : decode cL_law 888 = .ok (.iconst 1, 1) := by decide +kernel
theorem dL_law_889 : decode cL_law 889 = .ok (.iadd, 1) := by decide +kernel
theorem dL_law_890 : decode cL_law 890 = .ok (.iaload, 1) := by decide +kernel
theorem dL_law_891 : decode cL_law 891 = .ok (.aload_n 0, 1) := by decide +kernel
theorem dL_law_892 : decode cL_law 892 = .ok (.iload 4, 2) := by decide +kernel
theorem dL_law_894 : decode cL_law 894 = .ok (.iconst 2, 1) := by decide +kernel
theorem dL_law_895 : decode cL_law 895 = .ok (.iadd, 1) := by decide +kernel
theorem dL_law_896 : decode cL_law 896 = .ok (.iaload, 1) := by decide +kernel
theorem dL_law_897 : decode cL_law 897 = .ok (.aload_n 0, 1) := by decide +kernel
theorem dL_law_898 : decode cL_law 898 = .ok (.iload 4, 2) := by decide +kernel
theorem dL_law_900 : decode cL_law 900 = .ok (.iconst 3, 1) := by decide +kernel
theorem dL_law_901 : decode cL_law 901 = .ok (.iadd, 1) := by decide +kernel
theorem dL_law_902 : decode cL_law 902 = .ok (.iaload, 1) := by decide +kernel
theorem dL_law_903 : decode cL_law 903 = .ok (.invokevirtual 109, 3) := by decide +kernel
theorem dL_law_906 : decode cL_law 906 = .ok (.if_icmp .eq 381, 3) := by decide +kernel
theorem dL_law_909 : decode cL_law 909 = .ok (.iconst 0, 1) := by decide +kernel
theorem dL_law_910 : decode cL_law 910 = .ok (.ireturn, 1) := by decide +kernel
theorem dL_law_911 : decode cL_law 911 = .ok (.aload_n 1, 1) := by decide +kernel
theorem dL_law_912 : decode cL_law 912 = .ok (.aload_n 0, 1) := by decide +kernel
theorem dL_law_913 : decode cL_law 913 = .ok (.iload 4, 2) := by decide +kernel
theorem dL_law_915 : decode cL_law 915 = .ok (.iconst 1, 1) := by decide +kernel
theorem dL_law_916 : decode cL_law 916 = .ok (.iadd, 1) := by decide +kernel
theorem dL_law_917 : decode cL_law 917 = .ok (.iaload, 1) := by decide +kernel
theorem dL_law_918 : decode cL_law 918 = .ok (.aload_n 0, 1) := by decide +kernel
theorem dL_law_919 : decode cL_law 919 = .ok (.iload 4, 2) := by decide +kernel
theorem dL_law_921 : decode cL_law 921 = .ok (.iconst 2, 1) := by decide +kernel
theorem dL_law_922 : decode cL_law 922 = .ok (.iadd, 1) := by decide +kernel
theorem dL_law_923 : decode cL_law 923 = .ok (.iaload, 1) := by decide +kernel
theorem dL_law_924 : decode cL_law 924 = .ok (.invokevirtual 110, 3) := by decide +kernel
theorem dL_law_927 : decode cL_law 927 = .ok (.aload_n 2, 1) := by decide +kernel
theorem dL_law_928 : decode cL_law 928 = .ok (.aload_n 0, 1) := by decide +kernel
theorem dL_law_929 : decode cL_law 929 = .ok (.iload 4, 2) := by decide +kernel
theorem dL_law_931 : decode cL_law 931 = .ok (.iconst 1, 1) := by decide +kernel
theorem dL_law_932 : decode cL_law 932 = .ok (.iadd, 1) := by decide +kernel
theorem dL_law_933 : decode cL_law 933 = .ok (.iaload, 1) := by decide +kernel
theorem dL_law_934 : decode cL_law 934 = .ok (.aload_n 0, 1) := by decide +kernel
theorem dL_law_935 : decode cL_law 935 = .ok (.iload 4, 2) := by decide +kernel
theorem dL_law_937 : decode cL_law 937 = .ok (.iconst 2, 1) := by decide +kernel
theorem dL_law_938 : decode cL_law 938 = .ok (.iadd, 1) := by decide +kernel
theorem dL_law_939 : decode cL_law 939 = .ok (.iaload, 1) := by decide +kernel
theorem dL_law_940 : decode cL_law 940 = .ok (.invokevirtual 113, 3) := by decide +kernel
theorem dL_law_943 : decode cL_law 943 = .ok (.if_icmp .eq 344, 3) := by decide +kernel
theorem dL_law_946 : decode cL_law 946 = .ok (.iconst 0, 1) := by decide +kernel
theorem dL_law_947 : decode cL_law 947 = .ok (.ireturn, 1) := by decide +kernel
theorem dL_law_948 : decode cL_law 948 = .ok (.aload_n 1, 1) := by decide +kernel
theorem dL_law_949 : decode cL_law 949 = .ok (.aload_n 0, 1) := by decide +kernel
theorem dL_law_950 : decode cL_law 950 = .ok (.iload 4, 2) := by decide +kernel
theorem dL_law_952 : decode cL_law 952 = .ok (.iconst 1, 1) := by decide +kernel
theorem dL_law_953 : decode cL_law 953 = .ok (.iadd, 1) := by decide +kernel
theorem dL_law_954 : decode cL_law 954 = .ok (.iaload, 1) := by decide +kernel
theorem dL_law_955 : decode cL_law 955 = .ok (.invokevirtual 114, 3) := by decide +kernel
theorem dL_law_958 : decode cL_law 958 = .ok (.aload_n 2, 1) := by decide +kernel
theorem dL_law_959 : decode cL_law 959 = .ok (.aload_n 0, 1) := by decide +kernel
theorem dL_law_960 : decode cL_law 960 = .ok (.iload 4, 2) := by decide +kernel
theorem dL_law_962 : decode cL_law 962 = .ok (.iconst 1, 1) := by decide +kernel
theorem dL_law_963 : decode cL_law 963 = .ok (.iadd, 1) := by decide +kernel
theorem dL_law_964 : decode cL_law 964 = .ok (.iaload, 1) := by decide +kernel
theorem dL_law_965 : decode cL_law 965 = .ok (.invokevirtual 117, 3) := by decide +kernel
theorem dL_law_968 : decode cL_law 968 = .ok (.if_icmp .eq 319, 3) := by decide +kernel
theorem dL_law_971 : decode cL_law 971 = .ok (.iconst 0, 1) := by decide +kernel
theorem dL_law_972 : decode cL_law 972 = .ok (.ireturn, 1) := by decide +kernel
theorem dL_law_973 : decode cL_law 973 = .ok (.aload_n 1, 1) := by decide +kernel
theorem dL_law_974 : decode cL_law 974 = .ok (.aload_n 0, 1) := by decide +kernel
theorem dL_law_975 : decode cL_law 975 = .ok (.iload 4, 2) := by decide +kernel
theorem dL_law_977 : decode cL_law 977 = .ok (.iconst 1, 1) := by decide +kernel
theorem dL_law_978 : decode cL_law 978 = .ok (.iadd, 1) := by decide +kernel
theorem dL_law_979 : decode cL_law 979 = .ok (.iaload, 1) := by decide +kernel
theorem dL_law_980 : decode cL_law 980 = .ok (.invokevirtual 118, 3) := by decide +kernel
theorem dL_law_983 : decode cL_law 983 = .ok (.aload_n 2, 1) := by decide +kernel
theorem dL_law_984 : decode cL_law 984 = .ok (.aload_n 0, 1) := by decide +kernel
theorem dL_law_985 : decode cL_law 985 = .ok (.iload 4, 2) := by decide +kernel
theorem dL_law_987 : decode cL_law 987 = .ok (.iconst 1, 1) := by decide +kernel
theorem dL_law_988 : decode cL_law 988 = .ok (.iadd, 1) := by decide +kernel
theorem dL_law_989 : decode cL_law 989 = .ok (.iaload, 1) := by decide +kernel
theorem dL_law_990 : decode cL_law 990 = .ok (.invokevirtual 121, 3) := by decide +kernel
theorem dL_law_993 : decode cL_law 993 = .ok (.if_icmp .eq 294, 3) := by decide +kernel
theorem dL_law_996 : decode cL_law 996 = .ok (.iconst 0, 1) := by decide +kernel
theorem dL_law_997 : decode cL_law 997 = .ok (.ireturn, 1) := by decide +kernel
theorem dL_law_998 : decode cL_law 998 = .ok (.aload_n 1, 1) := by decide +kernel
theorem dL_law_999 : decode cL_law 999 = .ok (.aload_n 0, 1) := by decide +kernel
theorem dL_law_1000 : decode cL_law 1000 = .ok (.iload 4, 2) := by decide +kernel
theorem dL_law_1002 : decode cL_law 1002 = .ok (.iconst 1, 1) := by decide +kernel
theorem dL_law_1003 : decode cL_law 1003 = .ok (.iadd, 1) := by decide +kernel
theorem dL_law_1004 : decode cL_law 1004 = .ok (.iaload, 1) := by decide +kernel
theorem dL_law_1005 : decode cL_law 1005 = .ok (.invokevirtual 122, 3) := by decide +kernel
theorem dL_law_1008 : decode cL_law 1008 = .ok (.aload_n 2, 1) := by decide +kernel
theorem dL_law_1009 : decode cL_law 1009 = .ok (.aload_n 0, 1) := by decide +kernel
theorem dL_law_1010 : decode cL_law 1010 = .ok (.iload 4, 2) := by decide +kernel
theorem dL_law_1012 : decode cL_law 1012 = .ok (.iconst 1, 1) := by decide +kernel
theorem dL_law_1013 : decode cL_law 1013 = .ok (.iadd, 1) := by decide +kernel
theorem dL_law_1014 : decode cL_law 1014 = .ok (.iaload, 1) := by decide +kernel
theorem dL_law_1015 : decode cL_law 1015 = .ok (.invokevirtual 125, 3) := by decide +kernel
theorem dL_law_1018 : decode cL_law 1018 = .ok (.if_icmp .eq 269, 3) := by decide +kernel
theorem dL_law_1021 : decode cL_law 1021 = .ok (.iconst 0, 1) := by decide +kernel
theorem dL_law_1022 : decode cL_law 1022 = .ok (.ireturn, 1) := by decide +kernel
theorem dL_law_1023 : decode cL_law 1023 = .ok (.aload_n 1, 1) := by decide +kernel
theorem dL_law_1024 : decode cL_law 1024 = .ok (.aload_n 0, 1) := by decide +kernel
theorem dL_law_1025 : decode cL_law 1025 = .ok (.iload 4, 2) := by decide +kernel
theorem dL_law_1027 : decode cL_law 1027 = .ok (.iconst 1, 1) := by decide +kernel
theorem dL_law_1028 : decode cL_law 1028 = .ok (.iadd, 1) := by decide +kernel
theorem dL_law_1029 : decode cL_law 1029 = .ok (.iaload, 1) := by decide +kernel
theorem dL_law_1030 : decode cL_law 1030 = .ok (.invokevirtual 126, 3) := by decide +kernel
theorem dL_law_1033 : decode cL_law 1033 = .ok (.aload_n 2, 1) := by decide +kernel
theorem dL_law_1034 : decode cL_law 1034 = .ok (.aload_n 0, 1) := by decide +kernel
theorem dL_law_1035 : decode cL_law 1035 = .ok (.iload 4, 2) := by decide +kernel
theorem dL_law_1037 : decode cL_law 1037 = .ok (.iconst 1, 1) := by decide +kernel
theorem dL_law_1038 : decode cL_law 1038 = .ok (.iadd, 1) := by decide +kernel
theorem dL_law_1039 : decode cL_law 1039 = .ok (.iaload, 1) := by decide +kernel
theorem dL_law_1040 : decode cL_law 1040 = .ok (.invokevirtual 129, 3) := by decide +kernel
theorem dL_law_1043 : decode cL_law 1043 = .ok (.if_icmp .eq 244, 3) := by decide +kernel
theorem dL_law_1046 : decode cL_law 1046 = .ok (.iconst 0, 1) := by decide +kernel
theorem dL_law_1047 : decode cL_law 1047 = .ok (.ireturn, 1) := by decide +kernel
theorem dL_law_1048 : decode cL_law 1048 = .ok (.aload_n 1, 1) := by decide +kernel
theorem dL_law_1049 : decode cL_law 1049 = .ok (.invokevirtual 130, 3) := by decide +kernel
theorem dL_law_1052 : decode cL_law 1052 = .ok (.aload_n 2, 1) := by decide +kernel
theorem dL_law_1053 : decode cL_law 1053 = .ok (.invokevirtual 133, 3) := by decide +kernel
theorem dL_law_1056 : decode cL_law 1056 = .ok (.if_icmp .eq 231, 3) := by decide +kernel
theorem dL_law_1059 : decode cL_law 1059 = .ok (.iconst 0, 1) := by decide +kernel
theorem dL_law_1060 : decode cL_law 1060 = .ok (.ireturn, 1) := by decide +kernel
theorem dL_law_1061 : decode cL_law 1061 = .ok (.aload_n 1, 1) := by decide +kernel
theorem dL_law_1062 : decode cL_law 1062 = .ok (.aload_n 0, 1) := by decide +kernel
theorem dL_law_1063 : decode cL_law 1063 = .ok (.iload 4, 2) := by decide +kernel
theorem dL_law_1065 : decode cL_law 1065 = .ok (.iconst 1, 1) := by decide +kernel
theorem dL_law_1066 : decode cL_law 1066 = .ok (.iadd, 1) := by decide +kernel
theorem dL_law_1067 : decode cL_law 1067 = .ok (.iaload, 1) := by decide +kernel
theorem dL_law_1068 : decode cL_law 1068 = .ok (.invokevirtual 134, 3) := by decide +kernel
theorem dL_law_1071 : decode cL_law 1071 = .ok (.aload_n 2, 1) := by decide +kernel
theorem dL_law_1072 : decode cL_law 1072 = .ok (.aload_n 0, 1) := by decide +kernel
theorem dL_law_1073 : decode cL_law 1073 = .ok (.iload 4, 2) := by decide +kernel
theorem dL_law_1075 : decode cL_law 1075 = .ok (.iconst 1, 1) := by decide +kernel
theorem dL_law_1076 : decode cL_law 1076 = .ok (.iadd, 1) := by decide +kernel
theorem dL_law_1077 : decode cL_law 1077 = .ok (.iaload, 1) := by decide +kernel
theorem dL_law_1078 : decode cL_law 1078 = .ok (.invokevirtual 137, 3) := by decide +kernel
theorem dL_law_1081 : decode cL_law 1081 = .ok (.if_icmp .eq 206, 3) := by decide +kernel
theorem dL_law_1084 : decode cL_law 1084 = .ok (.iconst 0, 1) := by decide +kernel
theorem dL_law_1085 : decode cL_law 1085 = .ok (.ireturn, 1) := by decide +kernel
theorem dL_law_1086 : decode cL_law 1086 = .ok (.aload_n 1, 1) := by decide +kernel
theorem dL_law_1087 : decode cL_law 1087 = .ok (.aload_n 0, 1) := by decide +kernel
theorem dL_law_1088 : decode cL_law 1088 = .ok (.iload 4, 2) := by decide +kernel
theorem dL_law_1090 : decode cL_law 1090 = .ok (.iconst 1, 1) := by decide +kernel
theorem dL_law_1091 : decode cL_law 1091 = .ok (.iadd, 1) := by decide +kernel
theorem dL_law_1092 : decode cL_law 1092 = .ok (.iaload, 1) := by decide +kernel
theorem dL_law_1093 : decode cL_law 1093 = .ok (.aload_n 0, 1) := by decide +kernel
theorem dL_law_1094 : decode cL_law 1094 = .ok (.iload 4, 2) := by decide +kernel
theorem dL_law_1096 : decode cL_law 1096 = .ok (.iconst 2, 1) := by decide +kernel
theorem dL_law_1097 : decode cL_law 1097 = .ok (.iadd, 1) := by decide +kernel
theorem dL_law_1098 : decode cL_law 1098 = .ok (.iaload, 1) := by decide +kernel
theorem dL_law_1099 : decode cL_law 1099 = .ok (.invokevirtual 138, 3) := by decide +kernel
theorem dL_law_1102 : decode cL_law 1102 = .ok (.aload_n 2, 1) := by decide +kernel
theorem dL_law_1103 : decode cL_law 1103 = .ok (.aload_n 0, 1) := by decide +kernel
theorem dL_law_1104 : decode cL_law 1104 = .ok (.iload 4, 2) := by decide +kernel
theorem dL_law_1106 : decode cL_law 1106 = .ok (.iconst 1, 1) := by decide +kernel
theorem dL_law_1107 : decode cL_law 1107 = .ok (.iadd, 1) := by decide +kernel
theorem dL_law_1108 : decode cL_law 1108 = .ok (.iaload, 1) := by decide +kernel
theorem dL_law_1109 : decode cL_law 1109 = .ok (.aload_n 0, 1) := by decide +kernel
theorem dL_law_1110 : decode cL_law 1110 = .ok (.iload 4, 2) := by decide +kernel
theorem dL_law_1112 : decode cL_law 1112 = .ok (.iconst 2, 1) := by decide +kernel
theorem dL_law_1113 : decode cL_law 1113 = .ok (.iadd, 1) := by decide +kernel
theorem dL_law_1114 : decode cL_law 1114 = .ok (.iaload, 1) := by decide +kernel
theorem dL_law_1115 : decode cL_law 1115 = .ok (.invokevirtual 141, 3) := by decide +kernel
theorem dL_law_1118 : decode cL_law 1118 = .ok (.if_icmp .eq 169, 3) := by decide +kernel
theorem dL_law_1121 : decode cL_law 1121 = .ok (.iconst 0, 1) := by decide +kernel
theorem dL_law_1122 : decode cL_law 1122 = .ok (.ireturn, 1) := by decide +kernel
theorem dL_law_1123 : decode cL_law 1123 = .ok (.aload_n 1, 1) := by decide +kernel
theorem dL_law_1124 : decode cL_law 1124 = .ok (.invokevirtual 142, 3) := by decide +kernel
theorem dL_law_1127 : decode cL_law 1127 = .ok (.aload_n 2, 1) := by decide +kernel
theorem dL_law_1128 : decode cL_law 1128 = .ok (.invokevirtual 145, 3) := by decide +kernel
theorem dL_law_1131 : decode cL_law 1131 = .ok (.if_icmp .eq 156, 3) := by decide +kernel
theorem dL_law_1134 : decode cL_law 1134 = .ok (.iconst 0, 1) := by decide +kernel
theorem dL_law_1135 : decode cL_law 1135 = .ok (.ireturn, 1) := by decide +kernel
theorem dL_law_1136 : decode cL_law 1136 = .ok (.aload_n 1, 1) := by decide +kernel
theorem dL_law_1137 : decode cL_law 1137 = .ok (.invokevirtual 146, 3) := by decide +kernel
theorem dL_law_1140 : decode cL_law 1140 = .ok (.aload_n 2, 1) := by decide +kernel
theorem dL_law_1141 : decode cL_law 1141 = .ok (.invokevirtual 149, 3) := by decide +kernel
theorem dL_law_1144 : decode cL_law 1144 = .ok (.if_icmp .eq 143, 3) := by decide +kernel
theorem dL_law_1147 : decode cL_law 1147 = .ok (.iconst 0, 1) := by decide +kernel
theorem dL_law_1148 : decode cL_law 1148 = .ok (.ireturn, 1) := by decide +kernel
theorem dL_law_1149 : decode cL_law 1149 = .ok (.aload_n 1, 1) := by decide +kernel
theorem dL_law_1150 : decode cL_law 1150 = .ok (.aload_n 0, 1) := by decide +kernel
theorem dL_law_1151 : decode cL_law 1151 = .ok (.iload 4, 2) := by decide +kernel
theorem dL_law_1153 : decode cL_law 1153 = .ok (.iconst 1, 1) := by decide +kernel
theorem dL_law_1154 : decode cL_law 1154 = .ok (.iadd, 1) := by decide +kernel
theorem dL_law_1155 : decode cL_law 1155 = .ok (.iaload, 1) := by decide +kernel
theorem dL_law_1156 : decode cL_law 1156 = .ok (.invokevirtual 150, 3) := by decide +kernel
theorem dL_law_1159 : decode cL_law 1159 = .ok (.aload_n 2, 1) := by decide +kernel
theorem dL_law_1160 : decode cL_law 1160 = .ok (.aload_n 0, 1) := by decide +kernel
theorem dL_law_1161 : decode cL_law 1161 = .ok (.iload 4, 2) := by decide +kernel
theorem dL_law_1163 : decode cL_law 1163 = .ok (.iconst 1, 1) := by decide +kernel
theorem dL_law_1164 : decode cL_law 1164 = .ok (.iadd, 1) := by decide +kernel
theorem dL_law_1165 : decode cL_law 1165 = .ok (.iaload, 1) := by decide +kernel
theorem dL_law_1166 : decode cL_law 1166 = .ok (.invokevirtual 153, 3) := by decide +kernel
theorem dL_law_1169 : decode cL_law 1169 = .ok (.if_icmp .eq 118, 3) := by decide +kernel
theorem dL_law_1172 : decode cL_law 1172 = .ok (.iconst 0, 1) := by decide +kernel
theorem dL_law_1173 : decode cL_law 1173 = .ok (.ireturn, 1) := by decide +kernel
theorem dL_law_1174 : decode cL_law 1174 = .ok (.aload_n 1, 1) := by decide +kernel
theorem dL_law_1175 : decode cL_law 1175 = .ok (.invokevirtual 154, 3) := by decide +kernel
theorem dL_law_1178 : decode cL_law 1178 = .ok (.aload_n 2, 1) := by decide +kernel
theorem dL_law_1179 : decode cL_law 1179 = .ok (.invokevirtual 157, 3) := by decide +kernel
theorem dL_law_1182 : decode cL_law 1182 = .ok (.if_icmp .eq 105, 3) := by decide +kernel
theorem dL_law_1185 : decode cL_law 1185 = .ok (.iconst 0, 1) := by decide +kernel
theorem dL_law_1186 : decode cL_law 1186 = .ok (.ireturn, 1) := by decide +kernel
theorem dL_law_1187 : decode cL_law 1187 = .ok (.aload_n 1, 1) := by decide +kernel
theorem dL_law_1188 : decode cL_law 1188 = .ok (.aload_n 0, 1) := by decide +kernel
theorem dL_law_1189 : decode cL_law 1189 = .ok (.iload 4, 2) := by decide +kernel
theorem dL_law_1191 : decode cL_law 1191 = .ok (.iconst 1, 1) := by decide +kernel
theorem dL_law_1192 : decode cL_law 1192 = .ok (.iadd, 1) := by decide +kernel
theorem dL_law_1193 : decode cL_law 1193 = .ok (.iaload, 1) := by decide +kernel
theorem dL_law_1194 : decode cL_law 1194 = .ok (.aload_n 0, 1) := by decide +kernel
theorem dL_law_1195 : decode cL_law 1195 = .ok (.iload 4, 2) := by decide +kernel
theorem dL_law_1197 : decode cL_law 1197 = .ok (.iconst 2, 1) := by decide +kernel
theorem dL_law_1198 : decode cL_law 1198 = .ok (.iadd, 1) := by decide +kernel
theorem dL_law_1199 : decode cL_law 1199 = .ok (.iaload, 1) := by decide +kernel
theorem dL_law_1200 : decode cL_law 1200 = .ok (.invokevirtual 158, 3) := by decide +kernel
theorem dL_law_1203 : decode cL_law 1203 = .ok (.aload_n 2, 1) := by decide +kernel
theorem dL_law_1204 : decode cL_law 1204 = .ok (.aload_n 0, 1) := by decide +kernel
theorem dL_law_1205 : decode cL_law 1205 = .ok (.iload 4, 2) := by decide +kernel
theorem dL_law_1207 : decode cL_law 1207 = .ok (.iconst 1, 1) := by decide +kernel
theorem dL_law_1208 : decode cL_law 1208 = .ok (.iadd, 1) := by decide +kernel
theorem dL_law_1209 : decode cL_law 1209 = .ok (.iaload, 1) := by decide +kernel
theorem dL_law_1210 : decode cL_law 1210 = .ok (.aload_n 0, 1) := by decide +kernel
theorem dL_law_1211 : decode cL_law 1211 = .ok (.iload 4, 2) := by decide +kernel
theorem dL_law_1213 : decode cL_law 1213 = .ok (.iconst 2, 1) := by decide +kernel
theorem dL_law_1214 : decode cL_law 1214 = .ok (.iadd, 1) := by decide +kernel
theorem dL_law_1215 : decode cL_law 1215 = .ok (.iaload, 1) := by decide +kernel
theorem dL_law_1216 : decode cL_law 1216 = .ok (.invokevirtual 161, 3) := by decide +kernel
theorem dL_law_1219 : decode cL_law 1219 = .ok (.if_icmp .eq 68, 3) := by decide +kernel
theorem dL_law_1222 : decode cL_law 1222 = .ok (.iconst 0, 1) := by decide +kernel
theorem dL_law_1223 : decode cL_law 1223 = .ok (.ireturn, 1) := by decide +kernel
theorem dL_law_1224 : decode cL_law 1224 = .ok (.aload_n 1, 1) := by decide +kernel
theorem dL_law_1225 : decode cL_law 1225 = .ok (.invokevirtual 162, 3) := by decide +kernel
theorem dL_law_1228 : decode cL_law 1228 = .ok (.aload_n 2, 1) := by decide +kernel
theorem dL_law_1229 : decode cL_law 1229 = .ok (.invokevirtual 165, 3) := by decide +kernel
theorem dL_law_1232 : decode cL_law 1232 = .ok (.if_icmp .eq 55, 3) := by decide +kernel
theorem dL_law_1235 : decode cL_law 1235 = .ok (.iconst 0, 1) := by decide +kernel
theorem dL_law_1236 : decode cL_law 1236 = .ok (.ireturn, 1) := by decide +kernel
theorem dL_law_1237 : decode cL_law 1237 = .ok (.aload_n 1, 1) := by decide +kernel
theorem dL_law_1238 : decode cL_law 1238 = .ok (.aload_n 0, 1) := by decide +kernel
theorem dL_law_1239 : decode cL_law 1239 = .ok (.iload 4, 2) := by decide +kernel
theorem dL_law_1241 : decode cL_law 1241 = .ok (.iconst 1, 1) := by decide +kernel
theorem dL_law_1242 : decode cL_law 1242 = .ok (.iadd, 1) := by decide +kernel
theorem dL_law_1243 : decode cL_law 1243 = .ok (.iaload, 1) := by decide +kernel
theorem dL_law_1244 : decode cL_law 1244 = .ok (.invokevirtual 166, 3) := by decide +kernel
theorem dL_law_1247 : decode cL_law 1247 = .ok (.aload_n 2, 1) := by decide +kernel
theorem dL_law_1248 : decode cL_law 1248 = .ok (.aload_n 0, 1) := by decide +kernel
theorem dL_law_1249 : decode cL_law 1249 = .ok (.iload 4, 2) := by decide +kernel
theorem dL_law_1251 : decode cL_law 1251 = .ok (.iconst 1, 1) := by decide +kernel
theorem dL_law_1252 : decode cL_law 1252 = .ok (.iadd, 1) := by decide +kernel
theorem dL_law_1253 : decode cL_law 1253 = .ok (.iaload, 1) := by decide +kernel
theorem dL_law_1254 : decode cL_law 1254 = .ok (.invokevirtual 169, 3) := by decide +kernel
theorem dL_law_1257 : decode cL_law 1257 = .ok (.if_icmp .eq 30, 3) := by decide +kernel
