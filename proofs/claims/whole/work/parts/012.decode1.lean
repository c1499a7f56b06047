theorem dX9_forget_24 : decode cX9_forget 24 = .ok (.aload_n 0, 1) := by decide +kernel
theorem dX9_forget_25 : decode cX9_forget 25 = .ok (.getfield 12, 3) := by decide +kernel
theorem dX9_forget_28 : decode cX9_forget 28 = .ok (.iload_n 1, 1) := by decide +kernel
theorem dX9_forget_29 : decode cX9_forget 29 = .ok (.invokevirtual 189, 3) := by decide +kernel
theorem dX9_forget_32 : decode cX9_forget 32 = .ok (.aload_n 0, 1) := by decide +kernel
theorem dX9_forget_33 : decode cX9_forget 33 = .ok (.getfield 12, 3) := by decide +kernel
theorem dX9_forget_36 : decode cX9_forget 36 = .ok (.getfield 123, 3) := by decide +kernel
theorem dX9_forget_39 : decode cX9_forget 39 = .ok (.ireturn, 1) := by decide +kernel
theorem dX9_begin_0 : decode cX9_begin 0 = .ok (.aload_n 0, 1) := by decide +kernel
theorem dX9_begin_1 : decode cX9_begin 1 = .ok (.getfield 12, 3) := by decide +kernel
theorem dX9_begin_4 : decode cX9_begin 4 = .ok (.iload_n 1, 1) := by decide +kernel
theorem dX9_begin_5 : decode cX9_begin 5 = .ok (.invokevirtual 192, 3) := by decide +kernel
theorem dX9_begin_8 : decode cX9_begin 8 = .ok (.ifCond .eq 11, 3) := by decide +kernel
theorem dX9_begin_11 : decode cX9_begin 11 = .ok (.aload_n 0, 1) := by decide +kernel
theorem dX9_begin_12 : decode cX9_begin 12 = .ok (.iload_n 2, 1) := by decide +kernel
theorem dX9_begin_13 : decode cX9_begin 13 = .ok (.invokevirtual 195, 3) := by decide +kernel
theorem dX9_begin_16 : decode cX9_begin 16 = .ok (.ifCond .ne 5, 3) := by decide +kernel
theorem dX9_begin_19 : decode cX9_begin 19 = .ok (.iconst (-1), 1) := by decide +kernel
theorem dX9_begin_20 : decode cX9_begin 20 = .ok (.ireturn, 1) := by decide +kernel
theorem dX9_begin_21 : decode cX9_begin 21 = .ok (.aload_n 0, 1) := by decide +kernel
theorem dX9_begin_22 : decode cX9_begin 22 = .ok (.getfield 47, 3) := by decide +kernel
theorem dX9_begin_25 : decode cX9_begin 25 = .ok (.iload_n 1, 1) := by decide +kernel
theorem dX9_begin_26 : decode cX9_begin 26 = .ok (.invokevirtual 198, 3) := by decide +kernel
theorem dX9_begin_29 : decode cX9_begin 29 = .ok (.ireturn, 1) := by decide +kernel
theorem dX9_gap_0 : decode cX9_gap 0 = .ok (.aload_n 0, 1) := by decide +kernel
theorem dX9_gap_1 : decode cX9_gap 1 = .ok (.getfield 12, 3) := by decide +kernel
theorem dX9_gap_4 : decode cX9_gap 4 = .ok (.iload_n 1, 1) := by decide +kernel
theorem dX9_gap_5 : decode cX9_gap 5 = .ok (.invokevirtual 192, 3) := by decide +kernel
theorem dX9_gap_8 : decode cX9_gap 8 = .ok (.ifCond .eq 33, 3) := by decide +kernel
theorem dX9_gap_11 : decode cX9_gap 11 = .ok (.aload_n 0, 1) := by decide +kernel
theorem dX9_gap_12 : decode cX9_gap 12 = .ok (.getfield 12, 3) := by decide +kernel
theorem dX9_gap_15 : decode cX9_gap 15 = .ok (.iload_n 2, 1) := by decide +kernel
theorem dX9_gap_16 : decode cX9_gap 16 = .ok (.invokevirtual 192, 3) := by decide +kernel
theorem dX9_gap_19 : decode cX9_gap 19 = .ok (.ifCond .eq 22, 3) := by decide +kernel
theorem dX9_gap_22 : decode cX9_gap 22 = .ok (.iload 4, 2) := by decide +kernel
theorem dX9_gap_24 : decode cX9_gap 24 = .ok (.ifCond .lt 17, 3) := by decide +kernel
theorem dX9_gap_27 : decode cX9_gap 27 = .ok (.iload 4, 2) := by decide +kernel
theorem dX9_gap_29 : decode cX9_gap 29 = .ok (.iconst 1, 1) := by decide +kernel
theorem dX9_gap_30 : decode cX9_gap 30 = .ok (.if_icmp .gt 11, 3) := by decide +kernel
theorem dX9_gap_33 : decode cX9_gap 33 = .ok (.aload_n 0, 1) := by decide +kernel
theorem dX9_gap_34 : decode cX9_gap 34 = .ok (.iload_n 3, 1) := by decide +kernel
theorem dX9_gap_35 : decode cX9_gap 35 = .ok (.invokevirtual 195, 3) := by decide +kernel
theorem dX9_gap_38 : decode cX9_gap 38 = .ok (.ifCond .ne 6, 3) := by decide +kernel
theorem dX9_gap_41 : decode cX9_gap 41 = .ok (.ldc 202, 2) := by decide +kernel
theorem dX9_gap_43 : decode cX9_gap 43 = .ok (.ireturn, 1) := by decide +kernel
theorem dX9_gap_44 : decode cX9_gap 44 = .ok (.iload 4, 2) := by decide +kernel
theorem dX9_gap_46 : decode cX9_gap 46 = .ok (.ifCond .ne 15, 3) := by decide +kernel
theorem dX9_gap_49 : decode cX9_gap 49 = .ok (.aload_n 0, 1) := by decide +kernel
theorem dX9_gap_50 : decode cX9_gap 50 = .ok (.getfield 47, 3) := by decide +kernel
theorem dX9_gap_53 : decode cX9_gap 53 = .ok (.iload_n 1, 1) := by decide +kernel
theorem dX9_gap_54 : decode cX9_gap 54 = .ok (.iload_n 2, 1) := by decide +kernel
theorem dX9_gap_55 : decode cX9_gap 55 = .ok (.invokevirtual 203, 3) := by decide +kernel
theorem dX9_gap_58 : decode cX9_gap 58 = .ok (.goto 12, 3) := by decide +kernel
theorem dX9_gap_61 : decode cX9_gap 61 = .ok (.aload_n 0, 1) := by decide +kernel
theorem dX9_gap_62 : decode cX9_gap 62 = .ok (.getfield 47, 3) := by decide +kernel
theorem dX9_gap_65 : decode cX9_gap 65 = .ok (.iload_n 2, 1) := by decide +kernel
theorem dX9_gap_66 : decode cX9_gap 66 = .ok (.iload_n 1, 1) := by decide +kernel
theorem dX9_gap_67 : decode cX9_gap 67 = .ok (.invokevirtual 203, 3) := by decide +kernel
theorem dX9_gap_70 : decode cX9_gap 70 = .ok (.istore 5, 2) := by decide +kernel
theorem dX9_gap_72 : decode cX9_gap 72 = .ok (.iload 5, 2) := by decide +kernel
theorem dX9_gap_74 : decode cX9_gap 74 = .ok (.ldc 206, 2) := by decide +kernel
theorem dX9_gap_76 : decode cX9_gap 76 = .ok (.if_icmp .ne 6, 3) := by decide +kernel
theorem dX9_gap_79 : decode cX9_gap 79 = .ok (.ldc 202, 2) := by decide +kernel
theorem dX9_gap_81 : decode cX9_gap 81 = .ok (.ireturn, 1) := by decide +kernel
theorem dX9_gap_82 : decode cX9_gap 82 = .ok (.iload 4, 2) := by decide +kernel
theorem dX9_gap_84 : decode cX9_gap 84 = .ok (.ifCond .ne 8, 3) := by decide +kernel
theorem dX9_gap_87 : decode cX9_gap 87 = .ok (.iload 5, 2) := by decide +kernel
theorem dX9_gap_89 : decode cX9_gap 89 = .ok (.goto 6, 3) := by decide +kernel
theorem dX9_gap_92 : decode cX9_gap 92 = .ok (.iload 5, 2) := by decide +kernel
theorem dX9_gap_94 : decode cX9_gap 94 = .ok (.ineg, 1) := by decide +kernel
theorem dX9_gap_95 : decode cX9_gap 95 = .ok (.ireturn, 1) := by decide +kernel
theorem dX9_tight_0 : decode cX9_tight 0 = .ok (.aload_n 0, 1) := by decide +kernel
theorem dX9_tight_1 : decode cX9_tight 1 = .ok (.iload_n 1, 1) := by decide +kernel
theorem dX9_tight_2 : decode cX9_tight 2 = .ok (.invokevirtual 195, 3) := by decide +kernel
theorem dX9_tight_5 : decode cX9_tight 5 = .ok (.ifCond .ne 5, 3) := by decide +kernel
theorem dX9_tight_8 : decode cX9_tight 8 = .ok (.iconst (-1), 1) := by decide +kernel
theorem dX9_tight_9 : decode cX9_tight 9 = .ok (.ireturn, 1) := by decide +kernel
theorem dX9_tight_10 : decode cX9_tight 10 = .ok (.iconst 0, 1) := by decide +kernel
theorem dX9_tight_11 : decode cX9_tight 11 = .ok (.istore_n 2, 1) := by decide +kernel
theorem dX9_tight_12 : decode cX9_tight 12 = .ok (.iconst 0, 1) := by decide +kernel
theorem dX9_tight_13 : decode cX9_tight 13 = .ok (.istore_n 3, 1) := by decide +kernel
theorem dX9_tight_14 : decode cX9_tight 14 = .ok (.iload_n 3, 1) := by decide +kernel
theorem dX9_tight_15 : decode cX9_tight 15 = .ok (.aload_n 0, 1) := by decide +kernel
theorem dX9_tight_16 : decode cX9_tight 16 = .ok (.getfield 12, 3) := by decide +kernel
theorem dX9_tight_19 : decode cX9_tight 19 = .ok (.getfield 123, 3) := by decide +kernel
theorem dX9_tight_22 : decode cX9_tight 22 = .ok (.if_icmp .ge 99, 3) := by decide +kernel
theorem dX9_tight_25 : decode cX9_tight 25 = .ok (.aload_n 0, 1) := by decide +kernel
theorem dX9_tight_26 : decode cX9_tight 26 = .ok (.getfield 47, 3) := by decide +kernel
theorem dX9_tight_29 : decode cX9_tight 29 = .ok (.aload_n 0, 1) := by decide +kernel
theorem dX9_tight_30 : decode cX9_tight 30 = .ok (.getfield 12, 3) := by decide +kernel
theorem dX9_tight_33 : decode cX9_tight 33 = .ok (.getfield 150, 3) := by decide +kernel
theorem dX9_tight_36 : decode cX9_tight 36 = .ok (.iload_n 3, 1) := by decide +kernel
theorem dX9_tight_37 : decode cX9_tight 37 = .ok (.iaload, 1) := by decide +kernel
theorem dX9_tight_38 : decode cX9_tight 38 = .ok (.invokevirtual 198, 3) := by decide +kernel
theorem dX9_tight_41 : decode cX9_tight 41 = .ok (.aload_n 0, 1) := by decide +kernel
theorem dX9_tight_42 : decode cX9_tight 42 = .ok (.getfield 47, 3) := by decide +kernel
theorem dX9_tight_45 : decode cX9_tight 45 = .ok (.aload_n 0, 1) := by decide +kernel
theorem dX9_tight_46 : decode cX9_tight 46 = .ok (.getfield 12, 3) := by decide +kernel
theorem dX9_tight_49 : decode cX9_tight 49 = .ok (.getfield 147, 3) := by decide +kernel
theorem dX9_tight_52 : decode cX9_tight 52 = .ok (.iload_n 3, 1) := by decide +kernel
theorem dX9_tight_53 : decode cX9_tight 53 = .ok (.iaload, 1) := by decide +kernel
theorem dX9_tight_54 : decode cX9_tight 54 = .ok (.invokevirtual 198, 3) := by decide +kernel
theorem dX9_tight_57 : decode cX9_tight 57 = .ok (.isub, 1) := by decide +kernel
theorem dX9_tight_58 : decode cX9_tight 58 = .ok (.istore 4, 2) := by decide +kernel
theorem dX9_tight_60 : decode cX9_tight 60 = .ok (.aload_n 0, 1) := by decide +kernel
theorem dX9_tight_61 : decode cX9_tight 61 = .ok (.getfield 12, 3) := by decide +kernel
theorem dX9_tight_64 : decode cX9_tight 64 = .ok (.getfield 144, 3) := by decide +kernel
theorem dX9_tight_67 : decode cX9_tight 67 = .ok (.iload_n 3, 1) := by decide +kernel
theorem dX9_tight_68 : decode cX9_tight 68 = .ok (.iaload, 1) := by decide +kernel
theorem dX9_tight_69 : decode cX9_tight 69 = .ok (.ifCond .ne 17, 3) := by decide +kernel
theorem dX9_tight_72 : decode cX9_tight 72 = .ok (.iload 4, 2) := by decide +kernel
theorem dX9_tight_74 : decode cX9_tight 74 = .ok (.iload_n 1, 1) := by decide +kernel
theorem dX9_tight_75 : decode cX9_tight 75 = .ok (.if_icmp .eq 7, 3) := by decide +kernel
theorem dX9_tight_78 : decode cX9_tight 78 = .ok (.iconst 1, 1) := by decide +kernel
theorem dX9_tight_79 : decode cX9_tight 79 = .ok (.goto 23, 3) := by decide +kernel
theorem dX9_tight_82 : decode cX9_tight 82 = .ok (.iconst 0, 1) := by decide +kernel
theorem dX9_tight_83 : decode cX9_tight 83 = .ok (.goto 19, 3) := by decide +kernel
theorem dX9_tight_86 : decode cX9_tight 86 = .ok (.iload 4, 2) := by decide +kernel
theorem dX9_tight_88 : decode cX9_tight 88 = .ok (.invokestatic 207, 3) := by decide +kernel
theorem dX9_tight_91 : decode cX9_tight 91 = .ok (.iload_n 1, 1) := by decide +kernel
theorem dX9_tight_92 : decode cX9_tight 92 = .ok (.iconst 1, 1) := by decide +kernel
theorem dX9_tight_93 : decode cX9_tight 93 = .ok (.isub, 1) := by decide +kernel
theorem dX9_tight_94 : decode cX9_tight 94 = .ok (.if_icmp .eq 7, 3) := by decide +kernel
theorem dX9_tight_97 : decode cX9_tight 97 = .ok (.iconst 1, 1) := by decide +kernel
theorem dX9_tight_98 : decode cX9_tight 98 = .ok (.goto 4, 3) := by decide +kernel
theorem dX9_tight_101 : decode cX9_tight 101 = .ok (.iconst 0, 1) := by decide +kernel
theorem dX9_tight_102 : decode cX9_tight 102 = .ok (.istore 5, 2) := by decide +kernel
theorem dX9_tight_104 : decode cX9_tight 104 = .ok (.iload 5, 2) := by decide +kernel
theorem dX9_tight_106 : decode cX9_tight 106 = .ok (.ifCond .ne 9, 3) := by decide +kernel
theorem dX9_tight_109 : decode cX9_tight 109 = .ok (.iload_n 2, 1) := by decide +kernel
theorem dX9_tight_110 : decode cX9_tight 110 = .ok (.iconst 1, 1) := by decide +kernel
theorem dX9_tight_111 : decode cX9_tight 111 = .ok (.iload_n 3, 1) := by decide +kernel
theorem dX9_tight_112 : decode cX9_tight 112 = .ok (.ishl, 1) := by decide +kernel
theorem dX9_tight_113 : decode cX9_tight 113 = .ok (.ior, 1) := by decide +kernel
theorem dX9_tight_114 : decode cX9_tight 114 = .ok (.istore_n 2, 1) := by decide +kernel
theorem dX9_tight_115 : decode cX9_tight 115 = .ok (.iinc 3 1, 3) := by decide +kernel
theorem dX9_tight_118 : decode cX9_tight 118 = .ok (.goto (-104), 3) := by decide +kernel
theorem dX9_tight_121 : decode cX9_tight 121 = .ok (.iload_n 2, 1) := by decide +kernel
theorem dX9_tight_122 : decode cX9_tight 122 = .ok (.ireturn, 1) := by decide +kernel
theorem dX9_may_0 : decode cX9_may 0 = .ok (.aload_n 0, 1) := by decide +kernel
theorem dX9_may_1 : decode cX9_may 1 = .ok (.getfield 12, 3) := by decide +kernel
theorem dX9_may_4 : decode cX9_may 4 = .ok (.iload_n 1, 1) := by decide +kernel
theorem dX9_may_5 : decode cX9_may 5 = .ok (.iload_n 2, 1) := by decide +kernel
theorem dX9_may_6 : decode cX9_may 6 = .ok (.invokevirtual 153, 3) := by decide +kernel
theorem dX9_may_9 : decode cX9_may 9 = .ok (.ifCond .eq 12, 3) := by decide +kernel
theorem dX9_may_12 : decode cX9_may 12 = .ok (.aload_n 0, 1) := by decide +kernel
theorem dX9_may_13 : decode cX9_may 13 = .ok (.iload_n 1, 1) := by decide +kernel
theorem dX9_may_14 : decode cX9_may 14 = .ok (.iload_n 2, 1) := by decide +kernel
theorem dX9_may_15 : decode cX9_may 15 = .ok (.invokevirtual 212, 3) := by decide +kernel
theorem dX9_may_18 : decode cX9_may 18 = .ok (.goto 4, 3) := by decide +kernel
theorem dX9_may_21 : decode cX9_may 21 = .ok (.iconst (-1), 1) := by decide +kernel
theorem dX9_may_22 : decode cX9_may 22 = .ok (.ireturn, 1) := by decide +kernel
theorem dX9_ways_0 : decode cX9_ways 0 = .ok (.aload_n 0, 1) := by decide +kernel
theorem dX9_ways_1 : decode cX9_ways 1 = .ok (.getfield 61, 3) := by decide +kernel
theorem dX9_ways_4 : decode cX9_ways 4 = .ok (.aload_n 0, 1) := by decide +kernel
theorem dX9_ways_5 : decode cX9_ways 5 = .ok (.getfield 12, 3) := by decide +kernel
theorem dX9_ways_8 : decode cX9_ways 8 = .ok (.invokevirtual 215, 3) := by decide +kernel
theorem dX9_ways_11 : decode cX9_ways 11 = .ok (.ireturn, 1) := by decide +kernel
theorem dX9_test_0 : decode cX9_test 0 = .ok (.aload_n 0, 1) := by decide +kernel
theorem dX9_test_1 : decode cX9_test 1 = .ok (.iload_n 1, 1) := by decide +kernel
theorem dX9_test_2 : decode cX9_test 2 = .ok (.iload_n 2, 1) := by decide +kernel
theorem dX9_test_3 : decode cX9_test 3 = .ok (.iload_n 3, 1) := by decide +kernel
theorem dX9_test_4 : decode cX9_test 4 = .ok (.invokevirtual 161, 3) := by decide +kernel
theorem dX9_test_7 : decode cX9_test 7 = .ok (.ifCond .ne 5, 3) := by decide +kernel
theorem dX9_test_10 : decode cX9_test 10 = .ok (.iconst (-1), 1) := by decide +kernel
theorem dX9_test_11 : decode cX9_test 11 = .ok (.ireturn, 1) := by decide +kernel
theorem dX9_test_12 : decode cX9_test 12 = .ok (.aload_n 0, 1) := by decide +kernel
theorem dX9_test_13 : decode cX9_test 13 = .ok (.getfield 37, 3) := by decide +kernel
theorem dX9_test_16 : decode cX9_test 16 = .ok (.aload_n 0, 1) := by decide +kernel
theorem dX9_test_17 : decode cX9_test 17 = .ok (.getfield 12, 3) := by decide +kernel
theorem dX9_test_20 : decode cX9_test 20 = .ok (.iconst 0, 1) := by decide +kernel
theorem dX9_test_21 : decode cX9_test 21 = .ok (.iload_n 1, 1) := by decide +kernel
theorem dX9_test_22 : decode cX9_test 22 = .ok (.iload_n 2, 1) := by decide +kernel
theorem dX9_test_23 : decode cX9_test 23 = .ok (.iload_n 3, 1) := by decide +kernel
theorem dX9_test_24 : decode cX9_test 24 = .ok (.invokevirtual 165, 3) := by decide +kernel
theorem dX9_test_27 : decode cX9_test 27 = .ok (.ifCond .eq 13, 3) := by decide +kernel
theorem dX9_test_30 : decode cX9_test 30 = .ok (.aload_n 0, 1) := by decide +kernel
theorem dX9_test_31 : decode cX9_test 31 = .ok (.getfield 37, 3) := by decide +kernel
theorem dX9_test_34 : decode cX9_test 34 = .ok (.getfield 176, 3) := by decide +kernel
theorem dX9_test_37 : decode cX9_test 37 = .ok (.goto 4, 3) := by decide +kernel
theorem dX9_test_40 : decode cX9_test 40 = .ok (.iconst 0, 1) := by decide +kernel
theorem dX9_test_41 : decode cX9_test 41 = .ok (.ireturn, 1) := by decide +kernel
theorem dX9_yields_0 : decode cX9_yields 0 = .ok (.aload_n 0, 1) := by decide +kernel
theorem dX9_yields_1 : decode cX9_yields 1 = .ok (.iload_n 1, 1) := by decide +kernel
theorem dX9_yields_2 : decode cX9_yields 2 = .ok (.iload_n 2, 1) := by decide +kernel
theorem dX9_yields_3 : decode cX9_yields 3 = .ok (.iload_n 3, 1) := by decide +kernel
theorem dX9_yields_4 : decode cX9_yields 4 = .ok (.invokevirtual 161, 3) := by decide +kernel
theorem dX9_yields_7 : decode cX9_yields 7 = .ok (.ifCond .ne 5, 3) := by decide +kernel
theorem dX9_yields_10 : decode cX9_yields 10 = .ok (.iconst (-1), 1) := by decide +kernel
theorem dX9_yields_11 : decode cX9_yields 11 = .ok (.ireturn, 1) := by decide +kernel
theorem dX9_yields_12 : decode cX9_yields 12 = .ok (.iconst 0, 1) := by decide +kernel
theorem dX9_yields_13 : decode cX9_yields 13 = .ok (.istore 4, 2) := by decide +kernel
theorem dX9_yields_15 : decode cX9_yields 15 = .ok (.iload 4, 2) := by decide +kernel
theorem dX9_yields_17 : decode cX9_yields 17 = .ok (.iconst 3, 1) := by decide +kernel
theorem dX9_yields_18 : decode cX9_yields 18 = .ok (.if_icmp .gt 30, 3) := by decide +kernel
theorem dX9_yields_21 : decode cX9_yields 21 = .ok (.aload_n 0, 1) := by decide +kernel
theorem dX9_yields_22 : decode cX9_yields 22 = .ok (.iload_n 1, 1) := by decide +kernel
theorem dX9_yields_23 : decode cX9_yields 23 = .ok (.iload_n 2, 1) := by decide +kernel
theorem dX9_yields_24 : decode cX9_yields 24 = .ok (.iload_n 3, 1) := by decide +kernel
theorem dX9_yields_25 : decode cX9_yields 25 = .ok (.iconst 0, 1) := by decide +kernel
theorem dX9_yields_26 : decode cX9_yields 26 = .ok (.iload 4, 2) := by decide +kernel
theorem dX9_yields_28 : decode cX9_yields 28 = .ok (.invokevirtual 218, 3) := by decide +kernel
theorem dX9_yields_31 : decode cX9_yields 31 = .ok (.istore 5, 2) := by decide +kernel
theorem dX9_yields_33 : decode cX9_yields 33 = .ok (.iload 5, 2) := by decide +kernel
theorem dX9_yields_35 : decode cX9_yields 35 = .ok (.iconst (-1), 1) := by decide +kernel
theorem dX9_yields_36 : decode cX9_yields 36 = .ok (.if_icmp .eq 6, 3) := by decide +kernel
theorem dX9_yields_39 : decode cX9_yields 39 = .ok (.iload 5, 2) := by decide +kernel
theorem dX9_yields_41 : decode cX9_yields 41 = .ok (.ireturn, 1) := by decide +kernel
theorem dX9_yields_42 : decode cX9_yields 42 = .ok (.iinc 4 1, 3) := by decide +kernel
theorem dX9_yields_45 : decode cX9_yields 45 = .ok (.goto (-30), 3) := by decide +kernel
theorem dX9_yields_48 : decode cX9_yields 48 = .ok (.bipush (-2), 2) := by decide +kernel
theorem dX9_yields_50 : decode cX9_yields 50 = .ok (.ireturn, 1) := by decide +kernel
theorem dX9_idle_0 : decode cX9_idle 0 = .ok (.iconst 0, 1) := by decide +kernel
theorem dX9_idle_1 : decode cX9_idle 1 = .ok (.istore_n 1, 1) := by decide +kernel
theorem dX9_idle_2 : decode cX9_idle 2 = .ok (.iconst 0, 1) := by decide +kernel
theorem dX9_idle_3 : decode cX9_idle 3 = .ok (.istore_n 2, 1) := by decide +kernel
theorem dX9_idle_4 : decode cX9_idle 4 = .ok (.iload_n 2, 1) := by decide +kernel
theorem dX9_idle_5 : decode cX9_idle 5 = .ok (.aload_n 0, 1) := by decide +kernel
theorem dX9_idle_6 : decode cX9_idle 6 = .ok (.getfield 12, 3) := by decide +kernel
theorem dX9_idle_9 : decode cX9_idle 9 = .ok (.getfield 123, 3) := by decide +kernel
theorem dX9_idle_12 : decode cX9_idle 12 = .ok (.if_icmp .ge 44, 3) := by decide +kernel
theorem dX9_idle_15 : decode cX9_idle 15 = .ok (.aload_n 0, 1) := by decide +kernel
theorem dX9_idle_16 : decode cX9_idle 16 = .ok (.aload_n 0, 1) := by decide +kernel
theorem dX9_idle_17 : decode cX9_idle 17 = .ok (.getfield 12, 3) := by decide +kernel
theorem dX9_idle_20 : decode cX9_idle 20 = .ok (.getfield 147, 3) := by decide +kernel
theorem dX9_idle_23 : decode cX9_idle 23 = .ok (.iload_n 2, 1) := by decide +kernel
theorem dX9_idle_24 : decode cX9_idle 24 = .ok (.iaload, 1) := by decide +kernel
theorem dX9_idle_25 : decode cX9_idle 25 = .ok (.aload_n 0, 1) := by decide +kernel
theorem dX9_idle_26 : decode cX9_idle 26 = .ok (.getfield 12, 3) := by decide +kernel
theorem dX9_idle_29 : decode cX9_idle 29 = .ok (.getfield 150, 3) := by decide +kernel
theorem dX9_idle_32 : decode cX9_idle 32 = .ok (.iload_n 2, 1) := by decide +kernel
theorem dX9_idle_33 : decode cX9_idle 33 = .ok (.iaload, 1) := by decide +kernel
theorem dX9_idle_34 : decode cX9_idle 34 = .ok (.invokevirtual 212, 3) := by decide +kernel
theorem dX9_idle_37 : decode cX9_idle 37 = .ok (.invokestatic 222, 3) := by decide +kernel
theorem dX9_idle_40 : decode cX9_idle 40 = .ok (.iconst 1, 1) := by decide +kernel
theorem dX9_idle_41 : decode cX9_idle 41 = .ok (.if_icmp .ne 9, 3) := by decide +kernel
theorem dX9_idle_44 : decode cX9_idle 44 = .ok (.iload_n 1, 1) := by decide +kernel
theorem dX9_idle_45 : decode cX9_idle 45 = .ok (.iconst 1, 1) := by decide +kernel
theorem dX9_idle_46 : decode cX9_idle 46 = .ok (.iload_n 2, 1) := by decide +kernel
theorem dX9_idle_47 : decode cX9_idle 47 = .ok (.ishl, 1) := by decide +kernel
theorem dX9_idle_48 : decode cX9_idle 48 = .ok (.ior, 1) := by decide +kernel
theorem dX9_idle_49 : decode cX9_idle 49 = .ok (.istore_n 1, 1) := by decide +kernel
theorem dX9_idle_50 : decode cX9_idle 50 = .ok (.iinc 2 1, 3) := by decide +kernel
theorem dX9_idle_53 : decode cX9_idle 53 = .ok (.goto (-49), 3) := by decide +kernel
theorem dX9_idle_56 : decode cX9_idle 56 = .ok (.iload_n 1, 1) := by decide +kernel
theorem dX9_idle_57 : decode cX9_idle 57 = .ok (.ireturn, 1) := by decide +kernel
theorem dX9_late_0 : decode cX9_late 0 = .ok (.aload_n 0, 1) := by decide +kernel
theorem dX9_late_1 : decode cX9_late 1 = .ok (.getfield 12, 3) := by decide +kernel
theorem dX9_late_4 : decode cX9_late 4 = .ok (.iload_n 1, 1) := by decide +kernel
theorem dX9_late_5 : decode cX9_late 5 = .ok (.invokevirtual 192, 3) := by decide +kernel
theorem dX9_late_8 : decode cX9_late 8 = .ok (.ifCond .eq 22, 3) := by decide +kernel
theorem dX9_late_11 : decode cX9_late 11 = .ok (.iload_n 3, 1) := by decide +kernel
theorem dX9_late_12 : decode cX9_late 12 = .ok (.ifCond .lt 18, 3) := by decide +kernel
theorem dX9_late_15 : decode cX9_late 15 = .ok (.iload_n 3, 1) := by decide +kernel
theorem dX9_late_16 : decode cX9_late 16 = .ok (.sipush 999, 3) := by decide +kernel
theorem dX9_late_19 : decode cX9_late 19 = .ok (.if_icmp .gt 11, 3) := by decide +kernel
theorem dX9_late_22 : decode cX9_late 22 = .ok (.aload_n 0, 1) := by decide +kernel
theorem dX9_late_23 : decode cX9_late 23 = .ok (.iload_n 2, 1) := by decide +kernel
theorem dX9_late_24 : decode cX9_late 24 = .ok (.invokevirtual 195, 3) := by decide +kernel
theorem dX9_late_27 : decode cX9_late 27 = .ok (.ifCond .ne 5, 3) := by decide +kernel
theorem dX9_late_30 : decode cX9_late 30 = .ok (.iconst (-1), 1) := by decide +kernel
theorem dX9_late_31 : decode cX9_late 31 = .ok (.ireturn, 1) := by decide +kernel
theorem dX9_late_32 : decode cX9_late 32 = .ok (.iconst 0, 1) := by decide +kernel
theorem dX9_late_33 : decode cX9_late 33 = .ok (.istore 4, 2) := by decide +kernel
theorem dX9_late_35 : decode cX9_late 35 = .ok (.iconst 0, 1) := by decide +kernel
theorem dX9_late_36 : decode cX9_late 36 = .ok (.istore 5, 2) := by decide +kernel
theorem dX9_late_38 : decode cX9_late 38 = .ok (.iload 5, 2) := by decide +kernel
theorem dX9_late_40 : decode cX9_late 40 = .ok (.aload_n 0, 1) := by decide +kernel
theorem dX9_late_41 : decode cX9_late 41 = .ok (.getfield 12, 3) := by decide +kernel
theorem dX9_late_44 : decode cX9_late 44 = .ok (.getfield 120, 3) := by decide +kernel
theorem dX9_late_47 : decode cX9_late 47 = .ok (.if_icmp .ge 41, 3) := by decide +kernel
theorem dX9_late_50 : decode cX9_late 50 = .ok (.aload_n 0, 1) := by decide +kernel
theorem dX9_late_51 : decode cX9_late 51 = .ok (.getfield 47, 3) := by decide +kernel
theorem dX9_late_54 : decode cX9_late 54 = .ok (.iload 5, 2) := by decide +kernel
theorem dX9_late_56 : decode cX9_late 56 = .ok (.invokevirtual 198, 3) := by decide +kernel
theorem dX9_late_59 : decode cX9_late 59 = .ok (.iload_n 3, 1) := by decide +kernel
theorem dX9_late_60 : decode cX9_late 60 = .ok (.if_icmp .le 5, 3) := by decide +kernel
theorem dX9_late_63 : decode cX9_late 63 = .ok (.iconst (-1), 1) := by decide +kernel
theorem dX9_late_64 : decode cX9_late 64 = .ok (.ireturn, 1) := by decide +kernel
theorem dX9_late_65 : decode cX9_late 65 = .ok (.iload 4, 2) := by decide +kernel
theorem dX9_late_67 : decode cX9_late 67 = .ok (.aload_n 0, 1) := by decide +kernel
theorem dX9_late_68 : decode cX9_late 68 = .ok (.getfield 47, 3) := by decide +kernel
theorem dX9_late_71 : decode cX9_late 71 = .ok (.iload_n 1, 1) := by decide +kernel
theorem dX9_late_72 : decode cX9_late 72 = .ok (.iload 5, 2) := by decide +kernel
theorem dX9_late_74 : decode cX9_late 74 = .ok (.invokevirtual 203, 3) := by decide +kernel
theorem dX9_late_77 : decode cX9_late 77 = .ok (.invokestatic 227, 3) := by decide +kernel
theorem dX9_late_80 : decode cX9_late 80 = .ok (.istore 4, 2) := by decide +kernel
theorem dX9_late_82 : decode cX9_late 82 = .ok (.iinc 5 1, 3) := by decide +kernel
theorem dX9_late_85 : decode cX9_late 85 = .ok (.goto (-47), 3) := by decide +kernel
theorem dX9_late_88 : decode cX9_late 88 = .ok (.iload_n 3, 1) := by decide +kernel
theorem dX9_late_89 : decode cX9_late 89 = .ok (.iload 4, 2) := by decide +kernel
theorem dX9_late_91 : decode cX9_late 91 = .ok (.isub, 1) := by decide +kernel
theorem dX9_late_92 : decode cX9_late 92 = .ok (.ireturn, 1) := by decide +kernel
theorem dX9_ahead_0 : decode cX9_ahead 0 = .ok (.aload_n 0, 1) := by decide +kernel
theorem dX9_ahead_1 : decode cX9_ahead 1 = .ok (.getfield 12, 3) := by decide +kernel
theorem dX9_ahead_4 : decode cX9_ahead 4 = .ok (.iload_n 1, 1) := by decide +kernel
theorem dX9_ahead_5 : decode cX9_ahead 5 = .ok (.invokevirtual 192, 3) := by decide +kernel
theorem dX9_ahead_8 : decode cX9_ahead 8 = .ok (.ifCond .eq 14, 3) := by decide +kernel
theorem dX9_ahead_11 : decode cX9_ahead 11 = .ok (.aload_n 0, 1) := by decide +kernel
theorem dX9_ahead_12 : decode cX9_ahead 12 = .ok (.getfield 12, 3) := by decide +kernel
theorem dX9_ahead_15 : decode cX9_ahead 15 = .ok (.iload_n 2, 1) := by decide +kernel
theorem dX9_ahead_16 : decode cX9_ahead 16 = .ok (.invokevirtual 192, 3) := by decide +kernel
theorem dX9_ahead_19 : decode cX9_ahead 19 = .ok (.ifCond .ne 5, 3) := by decide +kernel
theorem dX9_ahead_22 : decode cX9_ahead 22 = .ok (.iconst (-1), 1) := by decide +kernel
theorem dX9_ahead_23 : decode cX9_ahead 23 = .ok (.ireturn, 1) := by decide +kernel
theorem dX9_ahead_24 : decode cX9_ahead 24 = .ok (.aload_n 0, 1) := by decide +kernel
theorem dX9_ahead_25 : decode cX9_ahead 25 = .ok (.getfield 54, 3) := by decide +kernel
theorem dX9_ahead_28 : decode cX9_ahead 28 = .ok (.aload_n 0, 1) := by decide +kernel
theorem dX9_ahead_29 : decode cX9_ahead 29 = .ok (.getfield 12, 3) := by decide +kernel
theorem dX9_ahead_32 : decode cX9_ahead 32 = .ok (.invokevirtual 127, 3) := by decide +kernel
theorem dX9_ahead_35 : decode cX9_ahead 35 = .ok (.aload_n 0, 1) := by decide +kernel
theorem dX9_ahead_36 : decode cX9_ahead 36 = .ok (.getfield 54, 3) := by decide +kernel
theorem dX9_ahead_39 : decode cX9_ahead 39 = .ok (.iload_n 1, 1) := by decide +kernel
theorem dX9_ahead_40 : decode cX9_ahead 40 = .ok (.iload_n 2, 1) := by decide +kernel
theorem dX9_ahead_41 : decode cX9_ahead 41 = .ok (.invokevirtual 230, 3) := by decide +kernel
theorem dX9_ahead_44 : decode cX9_ahead 44 = .ok (.ifCond .eq 7, 3) := by decide +kernel
theorem dX9_ahead_47 : decode cX9_ahead 47 = .ok (.iconst 1, 1) := by decide +kernel
theorem dX9_ahead_48 : decode cX9_ahead 48 = .ok (.goto 4, 3) := by decide +kernel
theorem dX9_ahead_51 : decode cX9_ahead 51 = .ok (.iconst 0, 1) := by decide +kernel
theorem dX9_ahead_52 : decode cX9_ahead 52 = .ok (.ireturn, 1) := by decide +kernel
theorem dX9_chain_0 : decode cX9_chain 0 = .ok (.aload_n 0, 1) := by decide +kernel
theorem dX9_chain_1 : decode cX9_chain 1 = .ok (.iload_n 1, 1) := by decide +kernel
theorem dX9_chain_2 : decode cX9_chain 2 = .ok (.iconst 1, 1) := by decide +kernel
theorem dX9_chain_3 : decode cX9_chain 3 = .ok (.invokevirtual 233, 3) := by decide +kernel
theorem dX9_chain_6 : decode cX9_chain 6 = .ok (.ireturn, 1) := by decide +kernel
theorem dX9_crowd_0 : decode cX9_crowd 0 = .ok (.aload_n 0, 1) := by decide +kernel
theorem dX9_crowd_1 : decode cX9_crowd 1 = .ok (.iload_n 1, 1) := by decide +kernel
theorem dX9_crowd_2 : decode cX9_crowd 2 = .ok (.iconst 0, 1) := by decide +kernel
theorem dX9_crowd_3 : decode cX9_crowd 3 = .ok (.invokevirtual 233, 3) := by decide +kernel
theorem dX9_crowd_6 : decode cX9_crowd 6 = .ok (.ireturn, 1) := by decide +kernel
theorem dX9_room_0 : decode cX9_room 0 = .ok (.iload_n 1, 1) := by decide +kernel
theorem dX9_room_1 : decode cX9_room 1 = .ok (.iconst (-1), 1) := by decide +kernel
theorem dX9_room_2 : decode cX9_room 2 = .ok (.if_icmp .eq 16, 3) := by decide +kernel
theorem dX9_room_5 : decode cX9_room 5 = .ok (.aload_n 0, 1) := by decide +kernel
theorem dX9_room_6 : decode cX9_room 6 = .ok (.getfield 12, 3) := by decide +kernel
theorem dX9_room_9 : decode cX9_room 9 = .ok (.iload_n 1, 1) := by decide +kernel
theorem dX9_room_10 : decode cX9_room 10 = .ok (.invokevirtual 192, 3) := by decide +kernel
theorem dX9_room_13 : decode cX9_room 13 = .ok (.ifCond .ne 5, 3) := by decide +kernel
theorem dX9_room_16 : decode cX9_room 16 = .ok (.iconst (-1), 1) := by decide +kernel
theorem dX9_room_17 : decode cX9_room 17 = .ok (.ireturn, 1) := by decide +kernel
theorem dX9_room_18 : decode cX9_room 18 = .ok (.aload_n 0, 1) := by decide +kernel
theorem dX9_room_19 : decode cX9_room 19 = .ok (.getfield 54, 3) := by decide +kernel
theorem dX9_room_22 : decode cX9_room 22 = .ok (.aload_n 0, 1) := by decide +kernel
theorem dX9_room_23 : decode cX9_room 23 = .ok (.getfield 12, 3) := by decide +kernel
theorem dX9_room_26 : decode cX9_room 26 = .ok (.invokevirtual 127, 3) := by decide +kernel
theorem dX9_room_29 : decode cX9_room 29 = .ok (.aload_n 0, 1) := by decide +kernel
theorem dX9_room_30 : decode cX9_room 30 = .ok (.getfield 54, 3) := by decide +kernel
theorem dX9_room_33 : decode cX9_room 33 = .ok (.invokevirtual 237, 3) := by decide +kernel
theorem dX9_room_36 : decode cX9_room 36 = .ok (.iload_n 1, 1) := by decide +kernel
theorem dX9_room_37 : decode cX9_room 37 = .ok (.iconst (-1), 1) := by decide +kernel
theorem dX9_room_38 : decode cX9_room 38 = .ok (.if_icmp .ne 13, 3) := by decide +kernel
theorem dX9_room_41 : decode cX9_room 41 = .ok (.aload_n 0, 1) := by decide +kernel
theorem dX9_room_42 : decode cX9_room 42 = .ok (.getfield 54, 3) := by decide +kernel
theorem dX9_room_45 : decode cX9_room 45 = .ok (.getfield 240, 3) := by decide +kernel
theorem dX9_room_48 : decode cX9_room 48 = .ok (.goto 12, 3) := by decide +kernel
theorem dX9_room_51 : decode cX9_room 51 = .ok (.aload_n 0, 1) := by decide +kernel
theorem dX9_room_52 : decode cX9_room 52 = .ok (.getfield 54, 3) := by decide +kernel
theorem dX9_room_55 : decode cX9_room 55 = .ok (.getfield 243, 3) := by decide +kernel
theorem dX9_room_58 : decode cX9_room 58 = .ok (.iload_n 1, 1) := by decide +kernel
theorem dX9_room_59 : decode cX9_room 59 = .ok (.iaload, 1) := by decide +kernel
theorem dX9_room_60 : decode cX9_room 60 = .ok (.ireturn, 1) := by decide +kernel
theorem dX9_shape_0 : decode cX9_shape 0 = .ok (.aload_n 0, 1) := by decide +kernel
theorem dX9_shape_1 : decode cX9_shape 1 = .ok (.getfield 12, 3) := by decide +kernel
theorem dX9_shape_4 : decode cX9_shape 4 = .ok (.iload_n 1, 1) := by decide +kernel
theorem dX9_shape_5 : decode cX9_shape 5 = .ok (.invokevirtual 192, 3) := by decide +kernel
theorem dX9_shape_8 : decode cX9_shape 8 = .ok (.ifCond .ne 5, 3) := by decide +kernel
theorem dX9_shape_11 : decode cX9_shape 11 = .ok (.iconst (-1), 1) := by decide +kernel
theorem dX9_shape_12 : decode cX9_shape 12 = .ok (.ireturn, 1) := by decide +kernel
theorem dX9_shape_13 : decode cX9_shape 13 = .ok (.aload_n 0, 1) := by decide +kernel
theorem dX9_shape_14 : decode cX9_shape 14 = .ok (.getfield 54, 3) := by decide +kernel
theorem dX9_shape_17 : decode cX9_shape 17 = .ok (.aload_n 0, 1) := by decide +kernel
theorem dX9_shape_18 : decode cX9_shape 18 = .ok (.getfield 12, 3) := by decide +kernel
theorem dX9_shape_21 : decode cX9_shape 21 = .ok (.invokevirtual 127, 3) := by decide +kernel
theorem dX9_shape_24 : decode cX9_shape 24 = .ok (.aload_n 0, 1) := by decide +kernel
theorem dX9_shape_25 : decode cX9_shape 25 = .ok (.getfield 54, 3) := by decide +kernel
theorem dX9_shape_28 : decode cX9_shape 28 = .ok (.invokevirtual 246, 3) := by decide +kernel
theorem dX9_shape_31 : decode cX9_shape 31 = .ok (.aload_n 0, 1) := by decide +kernel
theorem dX9_shape_32 : decode cX9_shape 32 = .ok (.getfield 54, 3) := by decide +kernel
theorem dX9_shape_35 : decode cX9_shape 35 = .ok (.getfield 249, 3) := by decide +kernel
theorem dX9_shape_38 : decode cX9_shape 38 = .ok (.iload_n 1, 1) := by decide +kernel
theorem dX9_shape_39 : decode cX9_shape 39 = .ok (.iaload, 1) := by decide +kernel
theorem dX9_shape_40 : decode cX9_shape 40 = .ok (.ireturn, 1) := by decide +kernel
theorem dX9_rank_0 : decode cX9_rank 0 = .ok (.aload_n 0, 1) := by decide +kernel
theorem dX9_rank_1 : decode cX9_rank 1 = .ok (.getfield 54, 3) := by decide +kernel
theorem dX9_rank_4 : decode cX9_rank 4 = .ok (.aload_n 0, 1) := by decide +kernel
theorem dX9_rank_5 : decode cX9_rank 5 = .ok (.getfield 12, 3) := by decide +kernel
theorem dX9_rank_8 : decode cX9_rank 8 = .ok (.invokevirtual 127, 3) := by decide +kernel
theorem dX9_rank_11 : decode cX9_rank 11 = .ok (.aload_n 0, 1) := by decide +kernel
theorem dX9_rank_12 : decode cX9_rank 12 = .ok (.getfield 54, 3) := by decide +kernel
theorem dX9_rank_15 : decode cX9_rank 15 = .ok (.invokevirtual 246, 3) := by decide +kernel
theorem dX9_rank_18 : decode cX9_rank 18 = .ok (.aload_n 0, 1) := by decide +kernel
theorem dX9_rank_19 : decode cX9_rank 19 = .ok (.getfield 68, 3) := by decide +kernel
theorem dX9_rank_22 : decode cX9_rank 22 = .ok (.aload_n 0, 1) := by decide +kernel
theorem dX9_rank_23 : decode cX9_rank 23 = .ok (.getfield 54, 3) := by decide +kernel
theorem dX9_rank_26 : decode cX9_rank 26 = .ok (.getfield 249, 3) := by decide +kernel
theorem dX9_rank_29 : decode cX9_rank 29 = .ok (.aload_n 0, 1) := by decide +kernel
theorem dX9_rank_30 : decode cX9_rank 30 = .ok (.getfield 12, 3) := by decide +kernel
theorem dX9_rank_33 : decode cX9_rank 33 = .ok (.getfield 120, 3) := by decide +kernel
theorem dX9_rank_36 : decode cX9_rank 36 = .ok (.invokevirtual 252, 3) := by decide +kernel
theorem dX9_rank_39 : decode cX9_rank 39 = .ok (.ireturn, 1) := by decide +kernel
theorem dX9_shapes_0 : decode cX9_shapes 0 = .ok (.iload_n 1, 1) := by decide +kernel
theorem dX9_shapes_1 : decode cX9_shapes 1 = .ok (.ifCond .lt 9, 3) := by decide +kernel
theorem dX9_shapes_4 : decode cX9_shapes 4 = .ok (.iload_n 1, 1) := by decide +kernel
theorem dX9_shapes_5 : decode cX9_shapes 5 = .ok (.bipush 12, 2) := by decide +kernel
theorem dX9_shapes_7 : decode cX9_shapes 7 = .ok (.if_icmp .le 7, 3) := by decide +kernel
theorem dX9_shapes_10 : decode cX9_shapes 10 = .ok (.iconst (-1), 1) := by decide +kernel
theorem dX9_shapes_11 : decode cX9_shapes 11 = .ok (.goto 11, 3) := by decide +kernel
theorem dX9_shapes_14 : decode cX9_shapes 14 = .ok (.aload_n 0, 1) := by decide +kernel
theorem dX9_shapes_15 : decode cX9_shapes 15 = .ok (.getfield 68, 3) := by decide +kernel
theorem dX9_shapes_18 : decode cX9_shapes 18 = .ok (.iload_n 1, 1) := by decide +kernel
theorem dX9_shapes_19 : decode cX9_shapes 19 = .ok (.invokevirtual 256, 3) := by decide +kernel
theorem dX9_shapes_22 : decode cX9_shapes 22 = .ok (.ireturn, 1) := by decide +kernel
theorem dX9_make_0 : decode cX9_make 0 = .ok (.iload_n 1, 1) := by decide +kernel
theorem dX9_make_1 : decode cX9_make 1 = .ok (.iconst 1, 1) := by decide +kernel
theorem dX9_make_2 : decode cX9_make 2 = .ok (.if_icmp .lt 25, 3) := by decide +kernel
theorem dX9_make_5 : decode cX9_make 5 = .ok (.iload_n 1, 1) := by decide +kernel
theorem dX9_make_6 : decode cX9_make 6 = .ok (.bipush 8, 2) := by decide +kernel
theorem dX9_make_8 : decode cX9_make 8 = .ok (.if_icmp .gt 19, 3) := by decide +kernel
theorem dX9_make_11 : decode cX9_make 11 = .ok (.iload_n 2, 1) := by decide +kernel
theorem dX9_make_12 : decode cX9_make 12 = .ok (.ifCond .lt 15, 3) := by decide +kernel
theorem dX9_make_15 : decode cX9_make 15 = .ok (.iload_n 2, 1) := by decide +kernel
theorem dX9_make_16 : decode cX9_make 16 = .ok (.aload_n 0, 1) := by decide +kernel
theorem dX9_make_17 : decode cX9_make 17 = .ok (.getfield 68, 3) := by decide +kernel
theorem dX9_make_20 : decode cX9_make 20 = .ok (.iload_n 1, 1) := by decide +kernel
theorem dX9_make_21 : decode cX9_make 21 = .ok (.invokevirtual 256, 3) := by decide +kernel
theorem dX9_make_24 : decode cX9_make 24 = .ok (.if_icmp .lt 5, 3) := by decide +kernel
theorem dX9_make_27 : decode cX9_make 27 = .ok (.iconst (-1), 1) := by decide +kernel
theorem dX9_make_28 : decode cX9_make 28 = .ok (.ireturn, 1) := by decide +kernel
theorem dX9_make_29 : decode cX9_make 29 = .ok (.aload_n 0, 1) := by decide +kernel
theorem dX9_make_30 : decode cX9_make 30 = .ok (.getfield 68, 3) := by decide +kernel
theorem dX9_make_33 : decode cX9_make 33 = .ok (.iload_n 1, 1) := by decide +kernel
theorem dX9_make_34 : decode cX9_make 34 = .ok (.iload_n 2, 1) := by decide +kernel
theorem dX9_make_35 : decode cX9_make 35 = .ok (.aload_n 0, 1) := by decide +kernel
theorem dX9_make_36 : decode cX9_make 36 = .ok (.getfield 72, 3) := by decide +kernel
theorem dX9_make_39 : decode cX9_make 39 = .ok (.invokevirtual 259, 3) := by decide +kernel
theorem dX9_make_42 : decode cX9_make 42 = .ok (.aload_n 0, 1) := by decide +kernel
theorem dX9_make_43 : decode cX9_make 43 = .ok (.getfield 22, 3) := by decide +kernel
theorem dX9_make_46 : decode cX9_make 46 = .ok (.aload_n 0, 1) := by decide +kernel
theorem dX9_make_47 : decode cX9_make 47 = .ok (.getfield 12, 3) := by decide +kernel
theorem dX9_make_50 : decode cX9_make 50 = .ok (.invokevirtual 169, 3) := by decide +kernel
theorem dX9_make_53 : decode cX9_make 53 = .ok (.aload_n 0, 1) := by decide +kernel
theorem dX9_make_54 : decode cX9_make 54 = .ok (.getfield 12, 3) := by decide +kernel
theorem dX9_make_57 : decode cX9_make 57 = .ok (.invokevirtual 263, 3) := by decide +kernel
theorem dX9_make_60 : decode cX9_make 60 = .ok (.aload_n 0, 1) := by decide +kernel
theorem dX9_make_61 : decode cX9_make 61 = .ok (.getfield 12, 3) := by decide +kernel
theorem dX9_make_64 : decode cX9_make 64 = .ok (.iload_n 1, 1) := by decide +kernel
theorem dX9_make_65 : decode cX9_make 65 = .ok (.putfield 120, 3) := by decide +kernel
theorem dX9_make_68 : decode cX9_make 68 = .ok (.iconst 0, 1) := by decide +kernel
theorem dX9_make_69 : decode cX9_make 69 = .ok (.istore_n 3, 1) := by decide +kernel
theorem dX9_make_70 : decode cX9_make 70 = .ok (.iload_n 3, 1) := by decide +kernel
theorem dX9_make_71 : decode cX9_make 71 = .ok (.iload_n 1, 1) := by decide +kernel
theorem dX9_make_72 : decode cX9_make 72 = .ok (.if_icmp .ge 52, 3) := by decide +kernel
theorem dX9_make_75 : decode cX9_make 75 = .ok (.iload_n 3, 1) := by decide +kernel
theorem dX9_make_76 : decode cX9_make 76 = .ok (.iconst 1, 1) := by decide +kernel
theorem dX9_make_77 : decode cX9_make 77 = .ok (.iadd, 1) := by decide +kernel
theorem dX9_make_78 : decode cX9_make 78 = .ok (.istore 4, 2) := by decide +kernel
theorem dX9_make_80 : decode cX9_make 80 = .ok (.iload 4, 2) := by decide +kernel
theorem dX9_make_82 : decode cX9_make 82 = .ok (.iload_n 1, 1) := by decide +kernel
theorem dX9_make_83 : decode cX9_make 83 = .ok (.if_icmp .ge 35, 3) := by decide +kernel
theorem dX9_make_86 : decode cX9_make 86 = .ok (.aload_n 0, 1) := by decide +kernel
theorem dX9_make_87 : decode cX9_make 87 = .ok (.getfield 12, 3) := by decide +kernel
theorem dX9_make_90 : decode cX9_make 90 = .ok (.iload_n 3, 1) := by decide +kernel
theorem dX9_make_91 : decode cX9_make 91 = .ok (.aload_n 0, 1) := by decide +kernel
theorem dX9_make_92 : decode cX9_make 92 = .ok (.getfield 72, 3) := by decide +kernel
theorem dX9_make_95 : decode cX9_make 95 = .ok (.iload 4, 2) := by decide +kernel
theorem dX9_make_97 : decode cX9_make 97 = .ok (.iaload, 1) := by decide +kernel
theorem dX9_make_98 : decode cX9_make 98 = .ok (.if_icmp .ge 7, 3) := by decide +kernel
theorem dX9_make_101 : decode cX9_make 101 = .ok (.iconst 0, 1) := by decide +kernel
theorem dX9_make_102 : decode cX9_make 102 = .ok (.goto 4, 3) := by decide +kernel
theorem dX9_make_105 : decode cX9_make 105 = .ok (.iconst 1, 1) := by decide +kernel
theorem dX9_make_106 : decode cX9_make 106 = .ok (.iload_n 3, 1) := by decide +kernel
theorem dX9_make_107 : decode cX9_make 107 = .ok (.iload 4, 2) := by decide +kernel
theorem dX9_make_109 : decode cX9_make 109 = .ok (.invokevirtual 172, 3) := by decide +kernel
theorem dX9_make_112 : decode cX9_make 112 = .ok (.iinc 4 1, 3) := by decide +kernel
theorem dX9_make_115 : decode cX9_make 115 = .ok (.goto (-35), 3) := by decide +kernel
theorem dX9_make_118 : decode cX9_make 118 = .ok (.iinc 3 1, 3) := by decide +kernel
theorem dX9_make_121 : decode cX9_make 121 = .ok (.goto (-51), 3) := by decide +kernel
theorem dX9_make_124 : decode cX9_make 124 = .ok (.aload_n 0, 1) := by decide +kernel
theorem dX9_make_125 : decode cX9_make 125 = .ok (.getfield 12, 3) := by decide +kernel
theorem dX9_make_128 : decode cX9_make 128 = .ok (.getfield 123, 3) := by decide +kernel
theorem dX9_make_131 : decode cX9_make 131 = .ok (.ireturn, 1) := by decide +kernel
theorem dX9_finish_0 : decode cX9_finish 0 = .ok (.aload_n 0, 1) := by decide +kernel
theorem dX9_finish_1 : decode cX9_finish 1 = .ok (.getfield 16, 3) := by decide +kernel
theorem dX9_finish_4 : decode cX9_finish 4 = .ok (.aload_n 0, 1) := by decide +kernel
theorem dX9_finish_5 : decode cX9_finish 5 = .ok (.getfield 12, 3) := by decide +kernel
theorem dX9_finish_8 : decode cX9_finish 8 = .ok (.invokevirtual 113, 3) := by decide +kernel
theorem dX9_finish_11 : decode cX9_finish 11 = .ok (.aload_n 0, 1) := by decide +kernel
theorem dX9_finish_12 : decode cX9_finish 12 = .ok (.getfield 47, 3) := by decide +kernel
theorem dX9_finish_15 : decode cX9_finish 15 = .ok (.aload_n 0, 1) := by decide +kernel
theorem dX9_finish_16 : decode cX9_finish 16 = .ok (.getfield 12, 3) := by decide +kernel
theorem dX9_finish_19 : decode cX9_finish 19 = .ok (.iconst 0, 1) := by decide +kernel
theorem dX9_finish_20 : decode cX9_finish 20 = .ok (.invokevirtual 266, 3) := by decide +kernel
theorem dX9_finish_23 : decode cX9_finish 23 = .ok (.iconst 0, 1) := by decide +kernel
theorem dX9_finish_24 : decode cX9_finish 24 = .ok (.istore_n 1, 1) := by decide +kernel
theorem dX9_finish_25 : decode cX9_finish 25 = .ok (.iconst 0, 1) := by decide +kernel
theorem dX9_finish_26 : decode cX9_finish 26 = .ok (.istore_n 2, 1) := by decide +kernel
theorem dX9_finish_27 : decode cX9_finish 27 = .ok (.iload_n 2, 1) := by decide +kernel
theorem dX9_finish_28 : decode cX9_finish 28 = .ok (.aload_n 0, 1) := by decide +kernel
theorem dX9_finish_29 : decode cX9_finish 29 = .ok (.getfield 12, 3) := by decide +kernel
theorem dX9_finish_32 : decode cX9_finish 32 = .ok (.getfield 120, 3) := by decide +kernel
theorem dX9_finish_35 : decode cX9_finish 35 = .ok (.if_icmp .ge 52, 3) := by decide +kernel
theorem dX9_finish_38 : decode cX9_finish 38 = .ok (.iload_n 2, 1) := by decide +kernel
theorem dX9_finish_39 : decode cX9_finish 39 = .ok (.iconst 1, 1) := by decide +kernel
theorem dX9_finish_40 : decode cX9_finish 40 = .ok (.iadd, 1) := by decide +kernel
theorem dX9_finish_41 : decode cX9_finish 41 = .ok (.istore_n 3, 1) := by decide +kernel
theorem dX9_finish_42 : decode cX9_finish 42 = .ok (.iload_n 3, 1) := by decide +kernel
theorem dX9_finish_43 : decode cX9_finish 43 = .ok (.aload_n 0, 1) := by decide +kernel
theorem dX9_finish_44 : decode cX9_finish 44 = .ok (.getfield 12, 3) := by decide +kernel
theorem dX9_finish_47 : decode cX9_finish 47 = .ok (.getfield 120, 3) := by decide +kernel
theorem dX9_finish_50 : decode cX9_finish 50 = .ok (.if_icmp .ge 31, 3) := by decide +kernel
theorem dX9_finish_53 : decode cX9_finish 53 = .ok (.aload_n 0, 1) := by decide +kernel
theorem dX9_finish_54 : decode cX9_finish 54 = .ok (.getfield 12, 3) := by decide +kernel
theorem dX9_finish_57 : decode cX9_finish 57 = .ok (.iload_n 2, 1) := by decide +kernel
theorem dX9_finish_58 : decode cX9_finish 58 = .ok (.iload_n 3, 1) := by decide +kernel
theorem dX9_finish_59 : decode cX9_finish 59 = .ok (.invokevirtual 157, 3) := by decide +kernel
theorem dX9_finish_62 : decode cX9_finish 62 = .ok (.iconst (-1), 1) := by decide +kernel
theorem dX9_finish_63 : decode cX9_finish 63 = .ok (.if_icmp .ne 12, 3) := by decide +kernel
theorem dX9_finish_66 : decode cX9_finish 66 = .ok (.aload_n 0, 1) := by decide +kernel
theorem dX9_finish_67 : decode cX9_finish 67 = .ok (.iload_n 2, 1) := by decide +kernel
theorem dX9_finish_68 : decode cX9_finish 68 = .ok (.iload_n 3, 1) := by decide +kernel
theorem dX9_finish_69 : decode cX9_finish 69 = .ok (.invokevirtual 270, 3) := by decide +kernel
theorem dX9_finish_72 : decode cX9_finish 72 = .ok (.iinc 1 1, 3) := by decide +kernel
theorem dX9_finish_75 : decode cX9_finish 75 = .ok (.iinc 3 1, 3) := by decide +kernel
theorem dX9_finish_78 : decode cX9_finish 78 = .ok (.goto (-36), 3) := by decide +kernel
theorem dX9_finish_81 : decode cX9_finish 81 = .ok (.iinc 2 1, 3) := by decide +kernel
theorem dX9_finish_84 : decode cX9_finish 84 = .ok (.goto (-57), 3) := by decide +kernel
theorem dX9_finish_87 : decode cX9_finish 87 = .ok (.aload_n 0, 1) := by decide +kernel
theorem dX9_finish_88 : decode cX9_finish 88 = .ok (.iload_n 1, 1) := by decide +kernel
theorem dX9_finish_89 : decode cX9_finish 89 = .ok (.ifCond .le 7, 3) := by decide +kernel
theorem dX9_finish_92 : decode cX9_finish 92 = .ok (.iconst 1, 1) := by decide +kernel
theorem dX9_finish_93 : decode cX9_finish 93 = .ok (.goto 4, 3) := by decide +kernel
theorem dX9_finish_96 : decode cX9_finish 96 = .ok (.iconst 0, 1) := by decide +kernel
theorem dX9_finish_97 : decode cX9_finish 97 = .ok (.invokevirtual 274, 3) := by decide +kernel
theorem dX9_finish_100 : decode cX9_finish 100 = .ok (.iload_n 1, 1) := by decide +kernel
theorem dX9_finish_101 : decode cX9_finish 101 = .ok (.ireturn, 1) := by decide +kernel
theorem dX9_grow_0 : decode cX9_grow 0 = .ok (.aload_n 0, 1) := by decide +kernel
theorem dX9_grow_1 : decode cX9_grow 1 = .ok (.getfield 12, 3) := by decide +kernel
theorem dX9_grow_4 : decode cX9_grow 4 = .ok (.getfield 120, 3) := by decide +kernel
theorem dX9_grow_7 : decode cX9_grow 7 = .ok (.bipush 8, 2) := by decide +kernel
theorem dX9_grow_9 : decode cX9_grow 9 = .ok (.if_icmp .lt 5, 3) := by decide +kernel
theorem dX9_grow_12 : decode cX9_grow 12 = .ok (.iconst (-1), 1) := by decide +kernel
theorem dX9_grow_13 : decode cX9_grow 13 = .ok (.ireturn, 1) := by decide +kernel
theorem dX9_grow_14 : decode cX9_grow 14 = .ok (.aload_n 0, 1) := by decide +kernel
theorem dX9_grow_15 : decode cX9_grow 15 = .ok (.getfield 22, 3) := by decide +kernel
theorem dX9_grow_18 : decode cX9_grow 18 = .ok (.aload_n 0, 1) := by decide +kernel
theorem dX9_grow_19 : decode cX9_grow 19 = .ok (.getfield 12, 3) := by decide +kernel
theorem dX9_grow_22 : decode cX9_grow 22 = .ok (.invokevirtual 169, 3) := by decide +kernel
theorem dX9_grow_25 : decode cX9_grow 25 = .ok (.aload_n 0, 1) := by decide +kernel
theorem dX9_grow_26 : decode cX9_grow 26 = .ok (.getfield 12, 3) := by decide +kernel
theorem dX9_grow_29 : decode cX9_grow 29 = .ok (.dup, 1) := by decide +kernel
theorem dX9_grow_30 : decode cX9_grow 30 = .ok (.getfield 120, 3) := by decide +kernel
theorem dX9_grow_33 : decode cX9_grow 33 = .ok (.iconst 1, 1) := by decide +kernel
theorem dX9_grow_34 : decode cX9_grow 34 = .ok (.iadd, 1) := by decide +kernel
theorem dX9_grow_35 : decode cX9_grow 35 = .ok (.putfield 120, 3) := by decide +kernel
theorem dX9_grow_38 : decode cX9_grow 38 = .ok (.aload_n 0, 1) := by decide +kernel
theorem dX9_grow_39 : decode cX9_grow 39 = .ok (.getfield 12, 3) := by decide +kernel
theorem dX9_grow_42 : decode cX9_grow 42 = .ok (.getfield 120, 3) := by decide +kernel
theorem dX9_grow_45 : decode cX9_grow 45 = .ok (.iconst 1, 1) := by decide +kernel
theorem dX9_grow_46 : decode cX9_grow 46 = .ok (.isub, 1) := by decide +kernel
theorem dX9_grow_47 : decode cX9_grow 47 = .ok (.ireturn, 1) := by decide +kernel
theorem dX9_drop_0 : decode cX9_drop 0 = .ok (.aload_n 0, 1) := by decide +kernel
theorem dX9_drop_1 : decode cX9_drop 1 = .ok (.getfield 12, 3) := by decide +kernel
theorem dX9_drop_4 : decode cX9_drop 4 = .ok (.iload_n 1, 1) := by decide +kernel
theorem dX9_drop_5 : decode cX9_drop 5 = .ok (.invokevirtual 192, 3) := by decide +kernel
theorem dX9_drop_8 : decode cX9_drop 8 = .ok (.ifCond .ne 5, 3) := by decide +kernel
theorem dX9_drop_11 : decode cX9_drop 11 = .ok (.iconst (-1), 1) := by decide +kernel
theorem dX9_drop_12 : decode cX9_drop 12 = .ok (.ireturn, 1) := by decide +kernel
theorem dX9_drop_13 : decode cX9_drop 13 = .ok (.aload_n 0, 1) := by decide +kernel
theorem dX9_drop_14 : decode cX9_drop 14 = .ok (.getfield 22, 3) := by decide +kernel
theorem dX9_drop_17 : decode cX9_drop 17 = .ok (.aload_n 0, 1) := by decide +kernel
theorem dX9_drop_18 : decode cX9_drop 18 = .ok (.getfield 12, 3) := by decide +kernel
theorem dX9_drop_21 : decode cX9_drop 21 = .ok (.invokevirtual 169, 3) := by decide +kernel
theorem dX9_drop_24 : decode cX9_drop 24 = .ok (.aload_n 0, 1) := by decide +kernel
theorem dX9_drop_25 : decode cX9_drop 25 = .ok (.getfield 12, 3) := by decide +kernel
theorem dX9_drop_28 : decode cX9_drop 28 = .ok (.iload_n 1, 1) := by decide +kernel
theorem dX9_drop_29 : decode cX9_drop 29 = .ok (.invokevirtual 278, 3) := by decide +kernel
theorem dX9_drop_32 : decode cX9_drop 32 = .ok (.aload_n 0, 1) := by decide +kernel
theorem dX9_drop_33 : decode cX9_drop 33 = .ok (.getfield 12, 3) := by decide +kernel
theorem dX9_drop_36 : decode cX9_drop 36 = .ok (.getfield 120, 3) := by decide +kernel
theorem dX9_drop_39 : decode cX9_drop 39 = .ok (.ireturn, 1) := by decide +kernel
theorem dX9_turn_0 : decode cX9_turn 0 = .ok (.aload_n 0, 1) := by decide +kernel
theorem dX9_turn_1 : decode cX9_turn 1 = .ok (.getfield 16, 3) := by decide +kernel
theorem dX9_turn_4 : decode cX9_turn 4 = .ok (.aload_n 0, 1) := by decide +kernel
theorem dX9_turn_5 : decode cX9_turn 5 = .ok (.getfield 12, 3) := by decide +kernel
theorem dX9_turn_8 : decode cX9_turn 8 = .ok (.invokevirtual 113, 3) := by decide +kernel
theorem dX9_turn_11 : decode cX9_turn 11 = .ok (.aload_n 0, 1) := by decide +kernel
theorem dX9_turn_12 : decode cX9_turn 12 = .ok (.getfield 12, 3) := by decide +kernel
theorem dX9_turn_15 : decode cX9_turn 15 = .ok (.invokevirtual 281, 3) := by decide +kernel
theorem dX9_turn_18 : decode cX9_turn 18 = .ok (.istore_n 1, 1) := by decide +kernel
theorem dX9_turn_19 : decode cX9_turn 19 = .ok (.aload_n 0, 1) := by decide +kernel
theorem dX9_turn_20 : decode cX9_turn 20 = .ok (.iload_n 1, 1) := by decide +kernel
theorem dX9_turn_21 : decode cX9_turn 21 = .ok (.ifCond .le 7, 3) := by decide +kernel
theorem dX9_turn_24 : decode cX9_turn 24 = .ok (.iconst 1, 1) := by decide +kernel
theorem dX9_turn_25 : decode cX9_turn 25 = .ok (.goto 4, 3) := by decide +kernel
theorem dX9_turn_28 : decode cX9_turn 28 = .ok (.iconst 0, 1) := by decide +kernel
theorem dX9_turn_29 : decode cX9_turn 29 = .ok (.invokevirtual 274, 3) := by decide +kernel
theorem dX9_turn_32 : decode cX9_turn 32 = .ok (.iload_n 1, 1) := by decide +kernel
theorem dX9_turn_33 : decode cX9_turn 33 = .ok (.ireturn, 1) := by decide +kernel
theorem dX9_drawn_0 : decode cX9_drawn 0 = .ok (.iload_n 1, 1) := by decide +kernel
theorem dX9_drawn_1 : decode cX9_drawn 1 = .ok (.iconst 1, 1) := by decide +kernel
theorem dX9_drawn_2 : decode cX9_drawn 2 = .ok (.if_icmp .lt 9, 3) := by decide +kernel
theorem dX9_drawn_5 : decode cX9_drawn 5 = .ok (.iload_n 1, 1) := by decide +kernel
theorem dX9_drawn_6 : decode cX9_drawn 6 = .ok (.bipush 60, 2) := by decide +kernel
theorem dX9_drawn_8 : decode cX9_drawn 8 = .ok (.if_icmp .le 5, 3) := by decide +kernel
theorem dX9_drawn_11 : decode cX9_drawn 11 = .ok (.iconst (-1), 1) := by decide +kernel
theorem dX9_drawn_12 : decode cX9_drawn 12 = .ok (.ireturn, 1) := by decide +kernel
theorem dX9_drawn_13 : decode cX9_drawn 13 = .ok (.aload_n 0, 1) := by decide +kernel
theorem dX9_drawn_14 : decode cX9_drawn 14 = .ok (.getfield 16, 3) := by decide +kernel
theorem dX9_drawn_17 : decode cX9_drawn 17 = .ok (.aload_n 0, 1) := by decide +kernel
theorem dX9_drawn_18 : decode cX9_drawn 18 = .ok (.getfield 12, 3) := by decide +kernel
theorem dX9_drawn_21 : decode cX9_drawn 21 = .ok (.invokevirtual 113, 3) := by decide +kernel
theorem dX9_drawn_24 : decode cX9_drawn 24 = .ok (.aload_n 0, 1) := by decide +kernel
theorem dX9_drawn_25 : decode cX9_drawn 25 = .ok (.iload_n 2, 1) := by decide +kernel
theorem dX9_drawn_26 : decode cX9_drawn 26 = .ok (.putfield 92, 3) := by decide +kernel
theorem dX9_drawn_29 : decode cX9_drawn 29 = .ok (.iconst 0, 1) := by decide +kernel
theorem dX9_drawn_30 : decode cX9_drawn 30 = .ok (.istore_n 3, 1) := by decide +kernel
theorem dX9_drawn_31 : decode cX9_drawn 31 = .ok (.iconst 0, 1) := by decide +kernel
theorem dX9_drawn_32 : decode cX9_drawn 32 = .ok (.istore 4, 2) := by decide +kernel
theorem dX9_drawn_34 : decode cX9_drawn 34 = .ok (.iload 4, 2) := by decide +kernel
theorem dX9_drawn_36 : decode cX9_drawn 36 = .ok (.iload_n 1, 1) := by decide +kernel
theorem dX9_drawn_37 : decode cX9_drawn 37 = .ok (.if_icmp .ge 38, 3) := by decide +kernel
theorem dX9_drawn_40 : decode cX9_drawn 40 = .ok (.aload_n 0, 1) := by decide +kernel
theorem dX9_drawn_41 : decode cX9_drawn 41 = .ok (.bipush 8, 2) := by decide +kernel
theorem dX9_drawn_43 : decode cX9_drawn 43 = .ok (.invokevirtual 284, 3) := by decide +kernel
theorem dX9_drawn_46 : decode cX9_drawn 46 = .ok (.ifCond .ne 13, 3) := by decide +kernel
theorem dX9_drawn_49 : decode cX9_drawn 49 = .ok (.aload_n 0, 1) := by decide +kernel
theorem dX9_drawn_50 : decode cX9_drawn 50 = .ok (.invokevirtual 287, 3) := by decide +kernel
theorem dX9_drawn_53 : decode cX9_drawn 53 = .ok (.ifCond .eq 16, 3) := by decide +kernel
theorem dX9_drawn_56 : decode cX9_drawn 56 = .ok (.goto 10, 3) := by decide +kernel
theorem dX9_drawn_59 : decode cX9_drawn 59 = .ok (.aload_n 0, 1) := by decide +kernel
theorem dX9_drawn_60 : decode cX9_drawn 60 = .ok (.invokevirtual 291, 3) := by decide +kernel
theorem dX9_drawn_63 : decode cX9_drawn 63 = .ok (.ifCond .eq 6, 3) := by decide +kernel
theorem dX9_drawn_66 : decode cX9_drawn 66 = .ok (.iinc 3 1, 3) := by decide +kernel
theorem dX9_drawn_69 : decode cX9_drawn 69 = .ok (.iinc 4 1, 3) := by decide +kernel
theorem dX9_drawn_72 : decode cX9_drawn 72 = .ok (.goto (-38), 3) := by decide +kernel
theorem dX9_drawn_75 : decode cX9_drawn 75 = .ok (.aload_n 0, 1) := by decide +kernel
theorem dX9_drawn_76 : decode cX9_drawn 76 = .ok (.iload_n 3, 1) := by decide +kernel
theorem dX9_drawn_77 : decode cX9_drawn 77 = .ok (.ifCond .le 7, 3) := by decide +kernel
theorem dX9_drawn_80 : decode cX9_drawn 80 = .ok (.iconst 1, 1) := by decide +kernel
theorem dX9_drawn_81 : decode cX9_drawn 81 = .ok (.goto 4, 3) := by decide +kernel
theorem dX9_drawn_84 : decode cX9_drawn 84 = .ok (.iconst 0, 1) := by decide +kernel
theorem dX9_drawn_85 : decode cX9_drawn 85 = .ok (.invokevirtual 274, 3) := by decide +kernel
theorem dX9_drawn_88 : decode cX9_drawn 88 = .ok (.iload_n 3, 1) := by decide +kernel
theorem dX9_drawn_89 : decode cX9_drawn 89 = .ok (.ireturn, 1) := by decide +kernel
theorem dX9_undo_0 : decode cX9_undo 0 = .ok (.aload_n 0, 1) := by decide +kernel
theorem dX9_undo_1 : decode cX9_undo 1 = .ok (.getfield 22, 3) := by decide +kernel
theorem dX9_undo_4 : decode cX9_undo 4 = .ok (.getfield 117, 3) := by decide +kernel
theorem dX9_undo_7 : decode cX9_undo 7 = .ok (.ifCond .ne 5, 3) := by decide +kernel
theorem dX9_undo_10 : decode cX9_undo 10 = .ok (.iconst (-1), 1) := by decide +kernel
theorem dX9_undo_11 : decode cX9_undo 11 = .ok (.ireturn, 1) := by decide +kernel
theorem dX9_undo_12 : decode cX9_undo 12 = .ok (.aload_n 0, 1) := by decide +kernel
theorem dX9_undo_13 : decode cX9_undo 13 = .ok (.getfield 22, 3) := by decide +kernel
theorem dX9_undo_16 : decode cX9_undo 16 = .ok (.aload_n 0, 1) := by decide +kernel
theorem dX9_undo_17 : decode cX9_undo 17 = .ok (.getfield 12, 3) := by decide +kernel
theorem dX9_undo_20 : decode cX9_undo 20 = .ok (.invokevirtual 294, 3) := by decide +kernel
theorem dX9_undo_23 : decode cX9_undo 23 = .ok (.aload_n 0, 1) := by decide +kernel
theorem dX9_undo_24 : decode cX9_undo 24 = .ok (.getfield 22, 3) := by decide +kernel
theorem dX9_undo_27 : decode cX9_undo 27 = .ok (.getfield 117, 3) := by decide +kernel
theorem dX9_undo_30 : decode cX9_undo 30 = .ok (.ireturn, 1) := by decide +kernel
theorem dX9_image_0 : decode cX9_image 0 = .ok (.iload_n 1, 1) := by decide +kernel
theorem dX9_image_1 : decode cX9_image 1 = .ok (.ifCond .lt 8, 3) := by decide +kernel
theorem dX9_image_4 : decode cX9_image 4 = .ok (.iload_n 1, 1) := by decide +kernel
theorem dX9_image_5 : decode cX9_image 5 = .ok (.iconst 2, 1) := by decide +kernel
theorem dX9_image_6 : decode cX9_image 6 = .ok (.if_icmp .lt 5, 3) := by decide +kernel
theorem dX9_image_9 : decode cX9_image 9 = .ok (.iconst 0, 1) := by decide +kernel
theorem dX9_image_10 : decode cX9_image 10 = .ok (.ireturn, 1) := by decide +kernel
theorem dX9_image_11 : decode cX9_image 11 = .ok (.aload_n 0, 1) := by decide +kernel
theorem dX9_image_12 : decode cX9_image 12 = .ok (.getfield 26, 3) := by decide +kernel
theorem dX9_image_15 : decode cX9_image 15 = .ok (.iload_n 1, 1) := by decide +kernel
theorem dX9_image_16 : decode cX9_image 16 = .ok (.aaload, 1) := by decide +kernel
theorem dX9_image_17 : decode cX9_image 17 = .ok (.aload_n 0, 1) := by decide +kernel
theorem dX9_image_18 : decode cX9_image 18 = .ok (.getfield 12, 3) := by decide +kernel
theorem dX9_image_21 : decode cX9_image 21 = .ok (.invokevirtual 113, 3) := by decide +kernel
theorem dX9_image_24 : decode cX9_image 24 = .ok (.aload_n 0, 1) := by decide +kernel
theorem dX9_image_25 : decode cX9_image 25 = .ok (.getfield 30, 3) := by decide +kernel
theorem dX9_image_28 : decode cX9_image 28 = .ok (.iload_n 1, 1) := by decide +kernel
theorem dX9_image_29 : decode cX9_image 29 = .ok (.iconst 1, 1) := by decide +kernel
theorem dX9_image_30 : decode cX9_image 30 = .ok (.bastore, 1) := by decide +kernel
theorem dX9_image_31 : decode cX9_image 31 = .ok (.iconst 1, 1) := by decide +kernel
theorem dX9_image_32 : decode cX9_image 32 = .ok (.ireturn, 1) := by decide +kernel
theorem dX9_restore_0 : decode cX9_restore 0 = .ok (.iload_n 1, 1) := by decide +kernel
theorem dX9_restore_1 : decode cX9_restore 1 = .ok (.ifCond .lt 17, 3) := by decide +kernel
theorem dX9_restore_4 : decode cX9_restore 4 = .ok (.iload_n 1, 1) := by decide +kernel
theorem dX9_restore_5 : decode cX9_restore 5 = .ok (.iconst 2, 1) := by decide +kernel
theorem dX9_restore_6 : decode cX9_restore 6 = .ok (.if_icmp .ge 12, 3) := by decide +kernel
theorem dX9_restore_9 : decode cX9_restore 9 = .ok (.aload_n 0, 1) := by decide +kernel
theorem dX9_restore_10 : decode cX9_restore 10 = .ok (.getfield 30, 3) := by decide +kernel
theorem dX9_restore_13 : decode cX9_restore 13 = .ok (.iload_n 1, 1) := by decide +kernel
theorem dX9_restore_14 : decode cX9_restore 14 = .ok (.baload, 1) := by decide +kernel
theorem dX9_restore_15 : decode cX9_restore 15 = .ok (.ifCond .ne 5, 3) := by decide +kernel
theorem dX9_restore_18 : decode cX9_restore 18 = .ok (.iconst 0, 1) := by decide +kernel
theorem dX9_restore_19 : decode cX9_restore 19 = .ok (.ireturn, 1) := by decide +kernel
theorem dX9_restore_20 : decode cX9_restore 20 = .ok (.aload_n 0, 1) := by decide +kernel
theorem dX9_restore_21 : decode cX9_restore 21 = .ok (.getfield 12, 3) := by decide +kernel
theorem dX9_restore_24 : decode cX9_restore 24 = .ok (.aload_n 0, 1) := by decide +kernel
theorem dX9_restore_25 : decode cX9_restore 25 = .ok (.getfield 26, 3) := by decide +kernel
theorem dX9_restore_28 : decode cX9_restore 28 = .ok (.iload_n 1, 1) := by decide +kernel
theorem dX9_restore_29 : decode cX9_restore 29 = .ok (.aaload, 1) := by decide +kernel
theorem dX9_restore_30 : decode cX9_restore 30 = .ok (.invokevirtual 113, 3) := by decide +kernel
theorem dX9_restore_33 : decode cX9_restore 33 = .ok (.aload_n 0, 1) := by decide +kernel
theorem dX9_restore_34 : decode cX9_restore 34 = .ok (.getfield 22, 3) := by decide +kernel
theorem dX9_restore_37 : decode cX9_restore 37 = .ok (.iconst 0, 1) := by decide +kernel
theorem dX9_restore_38 : decode cX9_restore 38 = .ok (.putfield 117, 3) := by decide +kernel
theorem dX9_restore_41 : decode cX9_restore 41 = .ok (.iconst 1, 1) := by decide +kernel
theorem dX9_restore_42 : decode cX9_restore 42 = .ok (.ireturn, 1) := by decide +kernel
theorem dX9_canBeNamed_0 : decode cX9_canBeNamed 0 = .ok (.iload_n 1, 1) := by decide +kernel
theorem dX9_canBeNamed_1 : decode cX9_canBeNamed 1 = .ok (.ifCond .eq 8, 3) := by decide +kernel
theorem dX9_canBeNamed_4 : decode cX9_canBeNamed 4 = .ok (.iload_n 1, 1) := by decide +kernel
theorem dX9_canBeNamed_5 : decode cX9_canBeNamed 5 = .ok (.iconst 1, 1) := by decide +kernel
theorem dX9_canBeNamed_6 : decode cX9_canBeNamed 6 = .ok (.if_icmp .ne 32, 3) := by decide +kernel
theorem dX9_canBeNamed_9 : decode cX9_canBeNamed 9 = .ok (.aload_n 0, 1) := by decide +kernel
theorem dX9_canBeNamed_10 : decode cX9_canBeNamed 10 = .ok (.getfield 12, 3) := by decide +kernel
theorem dX9_canBeNamed_13 : decode cX9_canBeNamed 13 = .ok (.iload_n 2, 1) := by decide +kernel
theorem dX9_canBeNamed_14 : decode cX9_canBeNamed 14 = .ok (.iload_n 3, 1) := by decide +kernel
theorem dX9_canBeNamed_15 : decode cX9_canBeNamed 15 = .ok (.invokevirtual 153, 3) := by decide +kernel
theorem dX9_canBeNamed_18 : decode cX9_canBeNamed 18 = .ok (.ifCond .eq 20, 3) := by decide +kernel
theorem dX9_canBeNamed_21 : decode cX9_canBeNamed 21 = .ok (.aload_n 0, 1) := by decide +kernel
theorem dX9_canBeNamed_22 : decode cX9_canBeNamed 22 = .ok (.getfield 12, 3) := by decide +kernel
theorem dX9_canBeNamed_25 : decode cX9_canBeNamed 25 = .ok (.iload_n 2, 1) := by decide +kernel
theorem dX9_canBeNamed_26 : decode cX9_canBeNamed 26 = .ok (.iload_n 3, 1) := by decide +kernel
theorem dX9_canBeNamed_27 : decode cX9_canBeNamed 27 = .ok (.invokevirtual 157, 3) := by decide +kernel
theorem dX9_canBeNamed_30 : decode cX9_canBeNamed 30 = .ok (.iconst (-1), 1) := by decide +kernel
theorem dX9_canBeNamed_31 : decode cX9_canBeNamed 31 = .ok (.if_icmp .ne 7, 3) := by decide +kernel
theorem dX9_canBeNamed_34 : decode cX9_canBeNamed 34 = .ok (.iconst 1, 1) := by decide +kernel
theorem dX9_canBeNamed_35 : decode cX9_canBeNamed 35 = .ok (.goto 4, 3) := by decide +kernel
theorem dX9_canBeNamed_38 : decode cX9_canBeNamed 38 = .ok (.iconst 0, 1) := by decide +kernel
theorem dX9_canBeNamed_39 : decode cX9_canBeNamed 39 = .ok (.ireturn, 1) := by decide +kernel
theorem dX9_layOut_0 : decode cX9_layOut 0 = .ok (.iload_n 1, 1) := by decide +kernel
theorem dX9_layOut_1 : decode cX9_layOut 1 = .ok (.iconst 1, 1) := by decide +kernel
theorem dX9_layOut_2 : decode cX9_layOut 2 = .ok (.if_icmp .lt 28, 3) := by decide +kernel
theorem dX9_layOut_5 : decode cX9_layOut 5 = .ok (.iload_n 1, 1) := by decide +kernel
theorem dX9_layOut_6 : decode cX9_layOut 6 = .ok (.bipush 60, 2) := by decide +kernel
theorem dX9_layOut_8 : decode cX9_layOut 8 = .ok (.if_icmp .gt 22, 3) := by decide +kernel
theorem dX9_layOut_11 : decode cX9_layOut 11 = .ok (.aload_n 0, 1) := by decide +kernel
theorem dX9_layOut_12 : decode cX9_layOut 12 = .ok (.getfield 47, 3) := by decide +kernel
theorem dX9_layOut_15 : decode cX9_layOut 15 = .ok (.aload_n 0, 1) := by decide +kernel
theorem dX9_layOut_16 : decode cX9_layOut 16 = .ok (.getfield 12, 3) := by decide +kernel
theorem dX9_layOut_19 : decode cX9_layOut 19 = .ok (.iload_n 1, 1) := by decide +kernel
theorem dX9_layOut_20 : decode cX9_layOut 20 = .ok (.invokevirtual 297, 3) := by decide +kernel
theorem dX9_layOut_23 : decode cX9_layOut 23 = .ok (.ifCond .eq 7, 3) := by decide +kernel
theorem dX9_layOut_26 : decode cX9_layOut 26 = .ok (.iconst 1, 1) := by decide +kernel
theorem dX9_layOut_27 : decode cX9_layOut 27 = .ok (.goto 4, 3) := by decide +kernel
theorem dX9_layOut_30 : decode cX9_layOut 30 = .ok (.iconst 0, 1) := by decide +kernel
theorem dX9_layOut_31 : decode cX9_layOut 31 = .ok (.ireturn, 1) := by decide +kernel
theorem dX9_openTo_0 : decode cX9_openTo 0 = .ok (.aload_n 0, 1) := by decide +kernel
theorem dX9_openTo_1 : decode cX9_openTo 1 = .ok (.getfield 12, 3) := by decide +kernel
theorem dX9_openTo_4 : decode cX9_openTo 4 = .ok (.iload_n 1, 1) := by decide +kernel
theorem dX9_openTo_5 : decode cX9_openTo 5 = .ok (.iload_n 2, 1) := by decide +kernel
theorem dX9_openTo_6 : decode cX9_openTo 6 = .ok (.invokevirtual 157, 3) := by decide +kernel
theorem dX9_openTo_9 : decode cX9_openTo 9 = .ok (.istore_n 3, 1) := by decide +kernel
theorem dX9_openTo_10 : decode cX9_openTo 10 = .ok (.aload_n 0, 1) := by decide +kernel
theorem dX9_openTo_11 : decode cX9_openTo 11 = .ok (.getfield 47, 3) := by decide +kernel
theorem dX9_openTo_14 : decode cX9_openTo 14 = .ok (.aload_n 0, 1) := by decide +kernel
theorem dX9_openTo_15 : decode cX9_openTo 15 = .ok (.getfield 12, 3) := by decide +kernel
theorem dX9_openTo_18 : decode cX9_openTo 18 = .ok (.iload_n 3, 1) := by decide +kernel
theorem dX9_openTo_19 : decode cX9_openTo 19 = .ok (.iconst (-1), 1) := by decide +kernel
theorem dX9_openTo_20 : decode cX9_openTo 20 = .ok (.if_icmp .ne 7, 3) := by decide +kernel
theorem dX9_openTo_23 : decode cX9_openTo 23 = .ok (.iconst 0, 1) := by decide +kernel
theorem dX9_openTo_24 : decode cX9_openTo 24 = .ok (.goto 6, 3) := by decide +kernel
theorem dX9_openTo_27 : decode cX9_openTo 27 = .ok (.iconst 1, 1) := by decide +kernel
theorem dX9_openTo_28 : decode cX9_openTo 28 = .ok (.iload_n 3, 1) := by decide +kernel
theorem dX9_openTo_29 : decode cX9_openTo 29 = .ok (.ishl, 1) := by decide +kernel
theorem dX9_openTo_30 : decode cX9_openTo 30 = .ok (.invokevirtual 266, 3) := by decide +kernel
theorem dX9_openTo_33 : decode cX9_openTo 33 = .ok (.aload_n 0, 1) := by decide +kernel
theorem dX9_openTo_34 : decode cX9_openTo 34 = .ok (.getfield 47, 3) := by decide +kernel
theorem dX9_openTo_37 : decode cX9_openTo 37 = .ok (.iload_n 1, 1) := by decide +kernel
theorem dX9_openTo_38 : decode cX9_openTo 38 = .ok (.iload_n 2, 1) := by decide +kernel
theorem dX9_openTo_39 : decode cX9_openTo 39 = .ok (.invokevirtual 301, 3) := by decide +kernel
theorem dX9_openTo_42 : decode cX9_openTo 42 = .ok (.ireturn, 1) := by decide +kernel
theorem dX9_leastYield_0 : decode cX9_leastYield 0 = .ok (.aload_n 0, 1) := by decide +kernel
theorem dX9_leastYield_1 : decode cX9_leastYield 1 = .ok (.getfield 41, 3) := by decide +kernel
theorem dX9_leastYield_4 : decode cX9_leastYield 4 = .ok (.aload_n 0, 1) := by decide +kernel
theorem dX9_leastYield_5 : decode cX9_leastYield 5 = .ok (.getfield 12, 3) := by decide +kernel
theorem dX9_leastYield_8 : decode cX9_leastYield 8 = .ok (.iload 4, 2) := by decide +kernel
theorem dX9_leastYield_10 : decode cX9_leastYield 10 = .ok (.iload_n 1, 1) := by decide +kernel
theorem dX9_leastYield_11 : decode cX9_leastYield 11 = .ok (.iload_n 2, 1) := by decide +kernel
theorem dX9_leastYield_12 : decode cX9_leastYield 12 = .ok (.iload_n 3, 1) := by decide +kernel
theorem dX9_leastYield_13 : decode cX9_leastYield 13 = .ok (.invokevirtual 165, 3) := by decide +kernel
theorem dX9_leastYield_16 : decode cX9_leastYield 16 = .ok (.ifCond .ne 6, 3) := by decide +kernel
theorem dX9_leastYield_19 : decode cX9_leastYield 19 = .ok (.iload 4, 2) := by decide +kernel
theorem dX9_leastYield_21 : decode cX9_leastYield 21 = .ok (.ireturn, 1) := by decide +kernel
theorem dX9_leastYield_22 : decode cX9_leastYield 22 = .ok (.iload 5, 2) := by decide +kernel
theorem dX9_leastYield_24 : decode cX9_leastYield 24 = .ok (.ifCond .gt 7, 3) := by decide +kernel
theorem dX9_leastYield_27 : decode cX9_leastYield 27 = .ok (.iconst (-1), 1) := by decide +kernel
theorem dX9_leastYield_28 : decode cX9_leastYield 28 = .ok (.goto 14, 3) := by decide +kernel
theorem dX9_leastYield_31 : decode cX9_leastYield 31 = .ok (.aload_n 0, 1) := by decide +kernel
theorem dX9_leastYield_32 : decode cX9_leastYield 32 = .ok (.iload_n 1, 1) := by decide +kernel
theorem dX9_leastYield_33 : decode cX9_leastYield 33 = .ok (.iload_n 2, 1) := by decide +kernel
theorem dX9_leastYield_34 : decode cX9_leastYield 34 = .ok (.iload_n 3, 1) := by decide +kernel
theorem dX9_leastYield_35 : decode cX9_leastYield 35 = .ok (.iload 4, 2) := by decide +kernel
theorem dX9_leastYield_37 : decode cX9_leastYield 37 = .ok (.iload 5, 2) := by decide +kernel
theorem dX9_leastYield_39 : decode cX9_leastYield 39 = .ok (.invokevirtual 304, 3) := by decide +kernel
theorem dX9_leastYield_42 : decode cX9_leastYield 42 = .ok (.ireturn, 1) := by decide +kernel
theorem dX9_leastOfRing_0 : decode cX9_leastOfRing 0 = .ok (.aload_n 0, 1) := by decide +kernel
theorem dX9_leastOfRing_1 : decode cX9_leastOfRing 1 = .ok (.getfield 41, 3) := by decide +kernel
theorem dX9_leastOfRing_4 : decode cX9_leastOfRing 4 = .ok (.invokevirtual 307, 3) := by decide +kernel
theorem dX9_leastOfRing_7 : decode cX9_leastOfRing 7 = .ok (.istore 6, 2) := by decide +kernel
theorem dX9_leastOfRing_9 : decode cX9_leastOfRing 9 = .ok (.iconst (-1), 1) := by decide +kernel
theorem dX9_leastOfRing_10 : decode cX9_leastOfRing 10 = .ok (.istore 7, 2) := by decide +kernel
theorem dX9_leastOfRing_12 : decode cX9_leastOfRing 12 = .ok (.iconst 0, 1) := by decide +kernel
theorem dX9_leastOfRing_13 : decode cX9_leastOfRing 13 = .ok (.istore 8, 2) := by decide +kernel
theorem dX9_leastOfRing_15 : decode cX9_leastOfRing 15 = .ok (.iload 8, 2) := by decide +kernel
theorem dX9_leastOfRing_17 : decode cX9_leastOfRing 17 = .ok (.aload_n 0, 1) := by decide +kernel
theorem dX9_leastOfRing_18 : decode cX9_leastOfRing 18 = .ok (.getfield 12, 3) := by decide +kernel
theorem dX9_leastOfRing_21 : decode cX9_leastOfRing 21 = .ok (.getfield 123, 3) := by decide +kernel
theorem dX9_leastOfRing_24 : decode cX9_leastOfRing 24 = .ok (.if_icmp .ge 63, 3) := by decide +kernel
theorem dX9_leastOfRing_27 : decode cX9_leastOfRing 27 = .ok (.iload 6, 2) := by decide +kernel
theorem dX9_leastOfRing_29 : decode cX9_leastOfRing 29 = .ok (.iload 8, 2) := by decide +kernel
theorem dX9_leastOfRing_31 : decode cX9_leastOfRing 31 = .ok (.ishr, 1) := by decide +kernel
theorem dX9_leastOfRing_32 : decode cX9_leastOfRing 32 = .ok (.iconst 1, 1) := by decide +kernel
theorem dX9_leastOfRing_33 : decode cX9_leastOfRing 33 = .ok (.iand, 1) := by decide +kernel
theorem dX9_leastOfRing_34 : decode cX9_leastOfRing 34 = .ok (.iconst 1, 1) := by decide +kernel
theorem dX9_leastOfRing_35 : decode cX9_leastOfRing 35 = .ok (.if_icmp .ne 46, 3) := by decide +kernel
theorem dX9_leastOfRing_38 : decode cX9_leastOfRing 38 = .ok (.aload_n 0, 1) := by decide +kernel
theorem dX9_leastOfRing_39 : decode cX9_leastOfRing 39 = .ok (.iload_n 1, 1) := by decide +kernel
theorem dX9_leastOfRing_40 : decode cX9_leastOfRing 40 = .ok (.iload_n 2, 1) := by decide +kernel
theorem dX9_leastOfRing_41 : decode cX9_leastOfRing 41 = .ok (.iload_n 3, 1) := by decide +kernel
theorem dX9_leastOfRing_42 : decode cX9_leastOfRing 42 = .ok (.iload 4, 2) := by decide +kernel
theorem dX9_leastOfRing_44 : decode cX9_leastOfRing 44 = .ok (.iconst 1, 1) := by decide +kernel
theorem dX9_leastOfRing_45 : decode cX9_leastOfRing 45 = .ok (.iload 8, 2) := by decide +kernel
theorem dX9_leastOfRing_47 : decode cX9_leastOfRing 47 = .ok (.ishl, 1) := by decide +kernel
theorem dX9_leastOfRing_48 : decode cX9_leastOfRing 48 = .ok (.ior, 1) := by decide +kernel
theorem dX9_leastOfRing_49 : decode cX9_leastOfRing 49 = .ok (.iload 5, 2) := by decide +kernel
theorem dX9_leastOfRing_51 : decode cX9_leastOfRing 51 = .ok (.iconst 1, 1) := by decide +kernel
theorem dX9_leastOfRing_52 : decode cX9_leastOfRing 52 = .ok (.isub, 1) := by decide +kernel
theorem dX9_leastOfRing_53 : decode cX9_leastOfRing 53 = .ok (.invokevirtual 218, 3) := by decide +kernel
theorem dX9_leastOfRing_56 : decode cX9_leastOfRing 56 = .ok (.istore 9, 2) := by decide +kernel
theorem dX9_leastOfRing_58 : decode cX9_leastOfRing 58 = .ok (.iload 9, 2) := by decide +kernel
theorem dX9_leastOfRing_60 : decode cX9_leastOfRing 60 = .ok (.iconst (-1), 1) := by decide +kernel
theorem dX9_leastOfRing_61 : decode cX9_leastOfRing 61 = .ok (.if_icmp .eq 20, 3) := by decide +kernel
theorem dX9_leastOfRing_64 : decode cX9_leastOfRing 64 = .ok (.iload 7, 2) := by decide +kernel
theorem dX9_leastOfRing_66 : decode cX9_leastOfRing 66 = .ok (.iconst (-1), 1) := by decide +kernel
theorem dX9_leastOfRing_67 : decode cX9_leastOfRing 67 = .ok (.if_icmp .eq 10, 3) := by decide +kernel
theorem dX9_leastOfRing_70 : decode cX9_leastOfRing 70 = .ok (.iload 9, 2) := by decide +kernel
theorem dX9_leastOfRing_72 : decode cX9_leastOfRing 72 = .ok (.iload 7, 2) := by decide +kernel
theorem dX9_leastOfRing_74 : decode cX9_leastOfRing 74 = .ok (.if_icmp .ge 7, 3) := by decide +kernel
theorem dX9_leastOfRing_77 : decode cX9_leastOfRing 77 = .ok (.iload 9, 2) := by decide +kernel
theorem dX9_leastOfRing_79 : decode cX9_leastOfRing 79 = .ok (.istore 7, 2) := by decide +kernel
theorem dX9_leastOfRing_81 : decode cX9_leastOfRing 81 = .ok (.iinc 8 1, 3) := by decide +kernel
theorem dX9_leastOfRing_84 : decode cX9_leastOfRing 84 = .ok (.goto (-69), 3) := by decide +kernel
theorem dX9_leastOfRing_87 : decode cX9_leastOfRing 87 = .ok (.iload 7, 2) := by decide +kernel
theorem dX9_leastOfRing_89 : decode cX9_leastOfRing 89 = .ok (.ireturn, 1) := by decide +kernel
theorem dX9_greatest_0 : decode cX9_greatest 0 = .ok (.iload_n 1, 1) := by decide +kernel
theorem dX9_greatest_1 : decode cX9_greatest 1 = .ok (.ifCond .lt 8, 3) := by decide +kernel
theorem dX9_greatest_4 : decode cX9_greatest 4 = .ok (.iload_n 1, 1) := by decide +kernel
theorem dX9_greatest_5 : decode cX9_greatest 5 = .ok (.iconst 1, 1) := by decide +kernel
theorem dX9_greatest_6 : decode cX9_greatest 6 = .ok (.if_icmp .le 5, 3) := by decide +kernel
theorem dX9_greatest_9 : decode cX9_greatest 9 = .ok (.iconst (-1), 1) := by decide +kernel
theorem dX9_greatest_10 : decode cX9_greatest 10 = .ok (.ireturn, 1) := by decide +kernel
theorem dX9_greatest_11 : decode cX9_greatest 11 = .ok (.aload_n 0, 1) := by decide +kernel
theorem dX9_greatest_12 : decode cX9_greatest 12 = .ok (.getfield 54, 3) := by decide +kernel
theorem dX9_greatest_15 : decode cX9_greatest 15 = .ok (.aload_n 0, 1) := by decide +kernel
theorem dX9_greatest_16 : decode cX9_greatest 16 = .ok (.getfield 12, 3) := by decide +kernel
theorem dX9_greatest_19 : decode cX9_greatest 19 = .ok (.invokevirtual 127, 3) := by decide +kernel
theorem dX9_greatest_22 : decode cX9_greatest 22 = .ok (.aload_n 0, 1) := by decide +kernel
theorem dX9_greatest_23 : decode cX9_greatest 23 = .ok (.getfield 54, 3) := by decide +kernel
theorem dX9_greatest_26 : decode cX9_greatest 26 = .ok (.iload_n 2, 1) := by decide +kernel
theorem dX9_greatest_27 : decode cX9_greatest 27 = .ok (.invokevirtual 310, 3) := by decide +kernel
theorem dX9_greatest_30 : decode cX9_greatest 30 = .ok (.istore_n 3, 1) := by decide +kernel
theorem dX9_greatest_31 : decode cX9_greatest 31 = .ok (.iload_n 1, 1) := by decide +kernel
theorem dX9_greatest_32 : decode cX9_greatest 32 = .ok (.ifCond .ne 10, 3) := by decide +kernel
theorem dX9_greatest_35 : decode cX9_greatest 35 = .ok (.iload_n 3, 1) := by decide +kernel
theorem dX9_greatest_36 : decode cX9_greatest 36 = .ok (.invokestatic 222, 3) := by decide +kernel
theorem dX9_greatest_39 : decode cX9_greatest 39 = .ok (.goto 4, 3) := by decide +kernel
theorem dX9_greatest_42 : decode cX9_greatest 42 = .ok (.iload_n 3, 1) := by decide +kernel
theorem dX9_greatest_43 : decode cX9_greatest 43 = .ok (.ireturn, 1) := by decide +kernel
theorem dX9_tellFirstOpen_0 : decode cX9_tellFirstOpen 0 = .ok (.aload_n 0, 1) := by decide +kernel
theorem dX9_tellFirstOpen_1 : decode cX9_tellFirstOpen 1 = .ok (.getfield 47, 3) := by decide +kernel
theorem dX9_tellFirstOpen_4 : decode cX9_tellFirstOpen 4 = .ok (.iload_n 1, 1) := by decide +kernel
theorem dX9_tellFirstOpen_5 : decode cX9_tellFirstOpen 5 = .ok (.iload_n 2, 1) := by decide +kernel
theorem dX9_tellFirstOpen_6 : decode cX9_tellFirstOpen 6 = .ok (.invokevirtual 301, 3) := by decide +kernel
theorem dX9_tellFirstOpen_9 : decode cX9_tellFirstOpen 9 = .ok (.istore_n 3, 1) := by decide +kernel
theorem dX9_tellFirstOpen_10 : decode cX9_tellFirstOpen 10 = .ok (.iload_n 3, 1) := by decide +kernel
theorem dX9_tellFirstOpen_11 : decode cX9_tellFirstOpen 11 = .ok (.iconst 1, 1) := by decide +kernel
theorem dX9_tellFirstOpen_12 : decode cX9_tellFirstOpen 12 = .ok (.iand, 1) := by decide +kernel
theorem dX9_tellFirstOpen_13 : decode cX9_tellFirstOpen 13 = .ok (.ifCond .eq 13, 3) := by decide +kernel
theorem dX9_tellFirstOpen_16 : decode cX9_tellFirstOpen 16 = .ok (.aload_n 0, 1) := by decide +kernel
theorem dX9_tellFirstOpen_17 : decode cX9_tellFirstOpen 17 = .ok (.iconst 0, 1) := by decide +kernel
theorem dX9_tellFirstOpen_18 : decode cX9_tellFirstOpen 18 = .ok (.iload_n 1, 1) := by decide +kernel
theorem dX9_tellFirstOpen_19 : decode cX9_tellFirstOpen 19 = .ok (.iload_n 2, 1) := by decide +kernel
theorem dX9_tellFirstOpen_20 : decode cX9_tellFirstOpen 20 = .ok (.invokevirtual 314, 3) := by decide +kernel
theorem dX9_tellFirstOpen_23 : decode cX9_tellFirstOpen 23 = .ok (.goto 26, 3) := by decide +kernel
theorem dX9_tellFirstOpen_26 : decode cX9_tellFirstOpen 26 = .ok (.iload_n 3, 1) := by decide +kernel
theorem dX9_tellFirstOpen_27 : decode cX9_tellFirstOpen 27 = .ok (.iconst 2, 1) := by decide +kernel
theorem dX9_tellFirstOpen_28 : decode cX9_tellFirstOpen 28 = .ok (.iand, 1) := by decide +kernel
theorem dX9_tellFirstOpen_29 : decode cX9_tellFirstOpen 29 = .ok (.ifCond .eq 13, 3) := by decide +kernel
theorem dX9_tellFirstOpen_32 : decode cX9_tellFirstOpen 32 = .ok (.aload_n 0, 1) := by decide +kernel
theorem dX9_tellFirstOpen_33 : decode cX9_tellFirstOpen 33 = .ok (.iconst 0, 1) := by decide +kernel
theorem dX9_tellFirstOpen_34 : decode cX9_tellFirstOpen 34 = .ok (.iload_n 2, 1) := by decide +kernel
theorem dX9_tellFirstOpen_35 : decode cX9_tellFirstOpen 35 = .ok (.iload_n 1, 1) := by decide +kernel
theorem dX9_tellFirstOpen_36 : decode cX9_tellFirstOpen 36 = .ok (.invokevirtual 314, 3) := by decide +kernel
theorem dX9_tellFirstOpen_39 : decode cX9_tellFirstOpen 39 = .ok (.goto 10, 3) := by decide +kernel
theorem dX9_tellFirstOpen_42 : decode cX9_tellFirstOpen 42 = .ok (.aload_n 0, 1) := by decide +kernel
theorem dX9_tellFirstOpen_43 : decode cX9_tellFirstOpen 43 = .ok (.iconst 1, 1) := by decide +kernel
theorem dX9_tellFirstOpen_44 : decode cX9_tellFirstOpen 44 = .ok (.iload_n 1, 1) := by decide +kernel
theorem dX9_tellFirstOpen_45 : decode cX9_tellFirstOpen 45 = .ok (.iload_n 2, 1) := by decide +kernel
theorem dX9_tellFirstOpen_46 : decode cX9_tellFirstOpen 46 = .ok (.invokevirtual 314, 3) := by decide +kernel
theorem dX9_tellFirstOpen_49 : decode cX9_tellFirstOpen 49 = .ok (.return_, 1) := by decide +kernel
theorem dX9_tellWeighed_0 : decode cX9_tellWeighed 0 = .ok (.aload_n 0, 1) := by decide +kernel
theorem dX9_tellWeighed_1 : decode cX9_tellWeighed 1 = .ok (.getfield 12, 3) := by decide +kernel
theorem dX9_tellWeighed_4 : decode cX9_tellWeighed 4 = .ok (.iload_n 1, 1) := by decide +kernel
theorem dX9_tellWeighed_5 : decode cX9_tellWeighed 5 = .ok (.iload_n 2, 1) := by decide +kernel
theorem dX9_tellWeighed_6 : decode cX9_tellWeighed 6 = .ok (.iload_n 3, 1) := by decide +kernel
theorem dX9_tellWeighed_7 : decode cX9_tellWeighed 7 = .ok (.invokevirtual 172, 3) := by decide +kernel
theorem dX9_tellWeighed_10 : decode cX9_tellWeighed 10 = .ok (.aload_n 0, 1) := by decide +kernel
theorem dX9_tellWeighed_11 : decode cX9_tellWeighed 11 = .ok (.getfield 47, 3) := by decide +kernel
theorem dX9_tellWeighed_14 : decode cX9_tellWeighed 14 = .ok (.iload_n 1, 1) := by decide +kernel
theorem dX9_tellWeighed_15 : decode cX9_tellWeighed 15 = .ok (.iload_n 2, 1) := by decide +kernel
theorem dX9_tellWeighed_16 : decode cX9_tellWeighed 16 = .ok (.iload_n 3, 1) := by decide +kernel
theorem dX9_tellWeighed_17 : decode cX9_tellWeighed 17 = .ok (.invokevirtual 317, 3) := by decide +kernel
theorem dX9_tellWeighed_20 : decode cX9_tellWeighed 20 = .ok (.return_, 1) := by decide +kernel
theorem dX9_keepMarkIf_0 : decode cX9_keepMarkIf 0 = .ok (.iload_n 1, 1) := by decide +kernel
theorem dX9_keepMarkIf_1 : decode cX9_keepMarkIf 1 = .ok (.ifCond .eq 14, 3) := by decide +kernel
theorem dX9_keepMarkIf_4 : decode cX9_keepMarkIf 4 = .ok (.aload_n 0, 1) := by decide +kernel
theorem dX9_keepMarkIf_5 : decode cX9_keepMarkIf 5 = .ok (.getfield 22, 3) := by decide +kernel
theorem dX9_keepMarkIf_8 : decode cX9_keepMarkIf 8 = .ok (.aload_n 0, 1) := by decide +kernel
theorem dX9_keepMarkIf_9 : decode cX9_keepMarkIf 9 = .ok (.getfield 16, 3) := by decide +kernel
theorem dX9_keepMarkIf_12 : decode cX9_keepMarkIf 12 = .ok (.invokevirtual 169, 3) := by decide +kernel
theorem dX9_keepMarkIf_15 : decode cX9_keepMarkIf 15 = .ok (.return_, 1) := by decide +kernel
theorem dX9_draw_0 : decode cX9_draw 0 = .ok (.aload_n 0, 1) := by decide +kernel
theorem dX9_draw_1 : decode cX9_draw 1 = .ok (.aload_n 0, 1) := by decide +kernel
theorem dX9_draw_2 : decode cX9_draw 2 = .ok (.getfield 92, 3) := by decide +kernel
theorem dX9_draw_5 : decode cX9_draw 5 = .ok (.ldc_w 320, 3) := by decide +kernel
theorem dX9_draw_8 : decode cX9_draw 8 = .ok (.imul, 1) := by decide +kernel
theorem dX9_draw_9 : decode cX9_draw 9 = .ok (.sipush 12345, 3) := by decide +kernel
theorem dX9_draw_12 : decode cX9_draw 12 = .ok (.iadd, 1) := by decide +kernel
theorem dX9_draw_13 : decode cX9_draw 13 = .ok (.putfield 92, 3) := by decide +kernel
theorem dX9_draw_16 : decode cX9_draw 16 = .ok (.iload_n 1, 1) := by decide +kernel
theorem dX9_draw_17 : decode cX9_draw 17 = .ok (.iconst 1, 1) := by decide +kernel
theorem dX9_draw_18 : decode cX9_draw 18 = .ok (.if_icmp .ge 7, 3) := by decide +kernel
theorem dX9_draw_21 : decode cX9_draw 21 = .ok (.iconst 0, 1) := by decide +kernel
theorem dX9_draw_22 : decode cX9_draw 22 = .ok (.goto 12, 3) := by decide +kernel
theorem dX9_draw_25 : decode cX9_draw 25 = .ok (.aload_n 0, 1) := by decide +kernel
theorem dX9_draw_26 : decode cX9_draw 26 = .ok (.getfield 92, 3) := by decide +kernel
theorem dX9_draw_29 : decode cX9_draw 29 = .ok (.bipush 8, 2) := by decide +kernel
theorem dX9_draw_31 : decode cX9_draw 31 = .ok (.iushr, 1) := by decide +kernel
theorem dX9_draw_32 : decode cX9_draw 32 = .ok (.iload_n 1, 1) := by decide +kernel
theorem dX9_draw_33 : decode cX9_draw 33 = .ok (.irem, 1) := by decide +kernel
theorem dX9_draw_34 : decode cX9_draw 34 = .ok (.ireturn, 1) := by decide +kernel
theorem dX9_drawForgotten_0 : decode cX9_drawForgotten 0 = .ok (.aload_n 0, 1) := by decide +kernel
theorem dX9_drawForgotten_1 : decode cX9_drawForgotten 1 = .ok (.getfield 12, 3) := by decide +kernel
theorem dX9_drawForgotten_4 : decode cX9_drawForgotten 4 = .ok (.getfield 123, 3) := by decide +kernel
theorem dX9_drawForgotten_7 : decode cX9_drawForgotten 7 = .ok (.ifCond .ne 5, 3) := by decide +kernel
theorem dX9_drawForgotten_10 : decode cX9_drawForgotten 10 = .ok (.iconst 0, 1) := by decide +kernel
theorem dX9_drawForgotten_11 : decode cX9_drawForgotten 11 = .ok (.ireturn, 1) := by decide +kernel
theorem dX9_drawForgotten_12 : decode cX9_drawForgotten 12 = .ok (.aload_n 0, 1) := by decide +kernel
theorem dX9_drawForgotten_13 : decode cX9_drawForgotten 13 = .ok (.getfield 12, 3) := by decide +kernel
theorem dX9_drawForgotten_16 : decode cX9_drawForgotten 16 = .ok (.aload_n 0, 1) := by decide +kernel
theorem dX9_drawForgotten_17 : decode cX9_drawForgotten 17 = .ok (.aload_n 0, 1) := by decide +kernel
theorem dX9_drawForgotten_18 : decode cX9_drawForgotten 18 = .ok (.getfield 12, 3) := by decide +kernel
theorem dX9_drawForgotten_21 : decode cX9_drawForgotten 21 = .ok (.getfield 123, 3) := by decide +kernel
theorem dX9_drawForgotten_24 : decode cX9_drawForgotten 24 = .ok (.invokevirtual 284, 3) := by decide +kernel
theorem dX9_drawForgotten_27 : decode cX9_drawForgotten 27 = .ok (.invokevirtual 189, 3) := by decide +kernel
theorem dX9_drawForgotten_30 : decode cX9_drawForgotten 30 = .ok (.iconst 1, 1) := by decide +kernel
theorem dX9_drawForgotten_31 : decode cX9_drawForgotten 31 = .ok (.ireturn, 1) := by decide +kernel
theorem dX9_drawTold_0 : decode cX9_drawTold 0 = .ok (.aload_n 0, 1) := by decide +kernel
theorem dX9_drawTold_1 : decode cX9_drawTold 1 = .ok (.getfield 12, 3) := by decide +kernel
theorem dX9_drawTold_4 : decode cX9_drawTold 4 = .ok (.getfield 120, 3) := by decide +kernel
theorem dX9_drawTold_7 : decode cX9_drawTold 7 = .ok (.iconst 2, 1) := by decide +kernel
theorem dX9_drawTold_8 : decode cX9_drawTold 8 = .ok (.if_icmp .ge 5, 3) := by decide +kernel
theorem dX9_drawTold_11 : decode cX9_drawTold 11 = .ok (.iconst 0, 1) := by decide +kernel
theorem dX9_drawTold_12 : decode cX9_drawTold 12 = .ok (.ireturn, 1) := by decide +kernel
theorem dX9_drawTold_13 : decode cX9_drawTold 13 = .ok (.aload_n 0, 1) := by decide +kernel
theorem dX9_drawTold_14 : decode cX9_drawTold 14 = .ok (.aload_n 0, 1) := by decide +kernel
theorem dX9_drawTold_15 : decode cX9_drawTold 15 = .ok (.getfield 12, 3) := by decide +kernel
theorem dX9_drawTold_18 : decode cX9_drawTold 18 = .ok (.getfield 120, 3) := by decide +kernel
theorem dX9_drawTold_21 : decode cX9_drawTold 21 = .ok (.invokevirtual 284, 3) := by decide +kernel
theorem dX9_drawTold_24 : decode cX9_drawTold 24 = .ok (.istore_n 1, 1) := by decide +kernel
theorem dX9_drawTold_25 : decode cX9_drawTold 25 = .ok (.aload_n 0, 1) := by decide +kernel
theorem dX9_drawTold_26 : decode cX9_drawTold 26 = .ok (.aload_n 0, 1) := by decide +kernel
theorem dX9_drawTold_27 : decode cX9_drawTold 27 = .ok (.getfield 12, 3) := by decide +kernel
theorem dX9_drawTold_30 : decode cX9_drawTold 30 = .ok (.getfield 120, 3) := by decide +kernel
theorem dX9_drawTold_33 : decode cX9_drawTold 33 = .ok (.iconst 1, 1) := by decide +kernel
theorem dX9_drawTold_34 : decode cX9_drawTold 34 = .ok (.isub, 1) := by decide +kernel
theorem dX9_drawTold_35 : decode cX9_drawTold 35 = .ok (.invokevirtual 284, 3) := by decide +kernel
theorem dX9_drawTold_38 : decode cX9_drawTold 38 = .ok (.istore_n 2, 1) := by decide +kernel
theorem dX9_drawTold_39 : decode cX9_drawTold 39 = .ok (.iload_n 2, 1) := by decide +kernel
theorem dX9_drawTold_40 : decode cX9_drawTold 40 = .ok (.iload_n 1, 1) := by decide +kernel
theorem dX9_drawTold_41 : decode cX9_drawTold 41 = .ok (.if_icmp .lt 6, 3) := by decide +kernel
theorem dX9_drawTold_44 : decode cX9_drawTold 44 = .ok (.iinc 2 1, 3) := by decide +kernel
theorem dX9_drawTold_47 : decode cX9_drawTold 47 = .ok (.aload_n 0, 1) := by decide +kernel
theorem dX9_drawTold_48 : decode cX9_drawTold 48 = .ok (.iconst 2, 1) := by decide +kernel
theorem dX9_drawTold_49 : decode cX9_drawTold 49 = .ok (.invokevirtual 284, 3) := by decide +kernel
theorem dX9_drawTold_52 : decode cX9_drawTold 52 = .ok (.istore_n 3, 1) := by decide +kernel
theorem dX9_drawTold_53 : decode cX9_drawTold 53 = .ok (.aload_n 0, 1) := by decide +kernel
theorem dX9_drawTold_54 : decode cX9_drawTold 54 = .ok (.iload_n 3, 1) := by decide +kernel
theorem dX9_drawTold_55 : decode cX9_drawTold 55 = .ok (.iload_n 1, 1) := by decide +kernel
theorem dX9_drawTold_56 : decode cX9_drawTold 56 = .ok (.iload_n 2, 1) := by decide +kernel
theorem dX9_drawTold_57 : decode cX9_drawTold 57 = .ok (.invokevirtual 161, 3) := by decide +kernel
theorem dX9_drawTold_60 : decode cX9_drawTold 60 = .ok (.ifCond .ne 5, 3) := by decide +kernel
theorem dX9_drawTold_63 : decode cX9_drawTold 63 = .ok (.iconst 0, 1) := by decide +kernel
theorem dX9_drawTold_64 : decode cX9_drawTold 64 = .ok (.ireturn, 1) := by decide +kernel
theorem dX9_drawTold_65 : decode cX9_drawTold 65 = .ok (.aload_n 0, 1) := by decide +kernel
theorem dX9_drawTold_66 : decode cX9_drawTold 66 = .ok (.getfield 47, 3) := by decide +kernel
theorem dX9_drawTold_69 : decode cX9_drawTold 69 = .ok (.aload_n 0, 1) := by decide +kernel
theorem dX9_drawTold_70 : decode cX9_drawTold 70 = .ok (.getfield 12, 3) := by decide +kernel
theorem dX9_drawTold_73 : decode cX9_drawTold 73 = .ok (.iconst 0, 1) := by decide +kernel
theorem dX9_drawTold_74 : decode cX9_drawTold 74 = .ok (.invokevirtual 266, 3) := by decide +kernel
theorem dX9_drawTold_77 : decode cX9_drawTold 77 = .ok (.aload_n 0, 1) := by decide +kernel
theorem dX9_drawTold_78 : decode cX9_drawTold 78 = .ok (.getfield 47, 3) := by decide +kernel
theorem dX9_drawTold_81 : decode cX9_drawTold 81 = .ok (.iload_n 1, 1) := by decide +kernel
theorem dX9_drawTold_82 : decode cX9_drawTold 82 = .ok (.iload_n 2, 1) := by decide +kernel
theorem dX9_drawTold_83 : decode cX9_drawTold 83 = .ok (.invokevirtual 301, 3) := by decide +kernel
theorem dX9_drawTold_86 : decode cX9_drawTold 86 = .ok (.iload_n 3, 1) := by decide +kernel
theorem dX9_drawTold_87 : decode cX9_drawTold 87 = .ok (.ifCond .ne 7, 3) := by decide +kernel
theorem dX9_drawTold_90 : decode cX9_drawTold 90 = .ok (.iconst 1, 1) := by decide +kernel
theorem dX9_drawTold_91 : decode cX9_drawTold 91 = .ok (.goto 4, 3) := by decide +kernel
theorem dX9_drawTold_94 : decode cX9_drawTold 94 = .ok (.iconst 4, 1) := by decide +kernel
theorem dX9_drawTold_95 : decode cX9_drawTold 95 = .ok (.iand, 1) := by decide +kernel
theorem dX9_drawTold_96 : decode cX9_drawTold 96 = .ok (.ifCond .ne 5, 3) := by decide +kernel
theorem dX9_drawTold_99 : decode cX9_drawTold 99 = .ok (.iconst 0, 1) := by decide +kernel
theorem dX9_drawTold_100 : decode cX9_drawTold 100 = .ok (.ireturn, 1) := by decide +kernel
theorem dX9_drawTold_101 : decode cX9_drawTold 101 = .ok (.aload_n 0, 1) := by decide +kernel
theorem dX9_drawTold_102 : decode cX9_drawTold 102 = .ok (.getfield 12, 3) := by decide +kernel
theorem dX9_drawTold_105 : decode cX9_drawTold 105 = .ok (.iload_n 3, 1) := by decide +kernel
theorem dX9_drawTold_106 : decode cX9_drawTold 106 = .ok (.iload_n 1, 1) := by decide +kernel
theorem dX9_drawTold_107 : decode cX9_drawTold 107 = .ok (.iload_n 2, 1) := by decide +kernel
theorem dX9_drawTold_108 : decode cX9_drawTold 108 = .ok (.invokevirtual 172, 3) := by decide +kernel
theorem dX9_drawTold_111 : decode cX9_drawTold 111 = .ok (.iconst 1, 1) := by decide +kernel
theorem dX9_drawTold_112 : decode cX9_drawTold 112 = .ok (.ireturn, 1) := by decide +kernel
theorem dX10_thrown_0 : decode cX10_thrown 0 = .ok (.aload_n 0, 1) := by decide +kernel
theorem dX10_thrown_1 : decode cX10_thrown 1 = .ok (.getfield 1, 3) := by decide +kernel
theorem dX10_thrown_4 : decode cX10_thrown 4 = .ok (.ireturn, 1) := by decide +kernel
theorem dX10_refuse_0 : decode cX10_refuse 0 = .ok (.aload_n 0, 1) := by decide +kernel
theorem dX10_refuse_1 : decode cX10_refuse 1 = .ok (.iconst 1, 1) := by decide +kernel
theorem dX10_refuse_2 : decode cX10_refuse 2 = .ok (.putfield 1, 3) := by decide +kernel
theorem dX10_refuse_5 : decode cX10_refuse 5 = .ok (.iconst 0, 1) := by decide +kernel
theorem dX10_refuse_6 : decode cX10_refuse 6 = .ok (.ireturn, 1) := by decide +kernel
theorem dX10_isIn_0 : decode cX10_isIn 0 = .ok (.iload_n 0, 1) := by decide +kernel
theorem dX10_isIn_1 : decode cX10_isIn 1 = .ok (.iload_n 1, 1) := by decide +kernel
theorem dX10_isIn_2 : decode cX10_isIn 2 = .ok (.if_icmp .lt 12, 3) := by decide +kernel
theorem dX10_isIn_5 : decode cX10_isIn 5 = .ok (.iload_n 0, 1) := by decide +kernel
theorem dX10_isIn_6 : decode cX10_isIn 6 = .ok (.iload_n 2, 1) := by decide +kernel
theorem dX10_isIn_7 : decode cX10_isIn 7 = .ok (.if_icmp .gt 7, 3) := by decide +kernel
theorem dX10_isIn_10 : decode cX10_isIn 10 = .ok (.iconst 1, 1) := by decide +kernel
theorem dX10_isIn_11 : decode cX10_isIn 11 = .ok (.goto 4, 3) := by decide +kernel
theorem dX10_isIn_14 : decode cX10_isIn 14 = .ok (.iconst 0, 1) := by decide +kernel
theorem dX10_isIn_15 : decode cX10_isIn 15 = .ok (.ireturn, 1) := by decide +kernel
theorem dX10_has_0 : decode cX10_has 0 = .ok (.iload_n 0, 1) := by decide +kernel
theorem dX10_has_1 : decode cX10_has 1 = .ok (.iload_n 1, 1) := by decide +kernel
theorem dX10_has_2 : decode cX10_has 2 = .ok (.ishr, 1) := by decide +kernel
theorem dX10_has_3 : decode cX10_has 3 = .ok (.iconst 1, 1) := by decide +kernel
theorem dX10_has_4 : decode cX10_has 4 = .ok (.iand, 1) := by decide +kernel
theorem dX10_has_5 : decode cX10_has 5 = .ok (.iconst 1, 1) := by decide +kernel
theorem dX10_has_6 : decode cX10_has 6 = .ok (.if_icmp .ne 7, 3) := by decide +kernel
theorem dX10_has_9 : decode cX10_has 9 = .ok (.iconst 1, 1) := by decide +kernel
theorem dX10_has_10 : decode cX10_has 10 = .ok (.goto 4, 3) := by decide +kernel
theorem dX10_has_13 : decode cX10_has 13 = .ok (.iconst 0, 1) := by decide +kernel
theorem dX10_has_14 : decode cX10_has 14 = .ok (.ireturn, 1) := by decide +kernel
theorem dX10_bits_0 : decode cX10_bits 0 = .ok (.iconst 0, 1) := by decide +kernel
theorem dX10_bits_1 : decode cX10_bits 1 = .ok (.istore_n 1, 1) := by decide +kernel
theorem dX10_bits_2 : decode cX10_bits 2 = .ok (.iload_n 0, 1) := by decide +kernel
theorem dX10_bits_3 : decode cX10_bits 3 = .ok (.istore_n 2, 1) := by decide +kernel
theorem dX10_bits_4 : decode cX10_bits 4 = .ok (.iload_n 2, 1) := by decide +kernel
theorem dX10_bits_5 : decode cX10_bits 5 = .ok (.ifCond .eq 15, 3) := by decide +kernel
theorem dX10_bits_8 : decode cX10_bits 8 = .ok (.iinc 1 1, 3) := by decide +kernel
theorem dX10_bits_11 : decode cX10_bits 11 = .ok (.iload_n 2, 1) := by decide +kernel
theorem dX10_bits_12 : decode cX10_bits 12 = .ok (.iload_n 2, 1) := by decide +kernel
theorem dX10_bits_13 : decode cX10_bits 13 = .ok (.iconst 1, 1) := by decide +kernel
theorem dX10_bits_14 : decode cX10_bits 14 = .ok (.isub, 1) := by decide +kernel
theorem dX10_bits_15 : decode cX10_bits 15 = .ok (.iand, 1) := by decide +kernel
theorem dX10_bits_16 : decode cX10_bits 16 = .ok (.istore_n 2, 1) := by decide +kernel
theorem dX10_bits_17 : decode cX10_bits 17 = .ok (.goto (-13), 3) := by decide +kernel
theorem dX10_bits_20 : decode cX10_bits 20 = .ok (.iload_n 1, 1) := by decide +kernel
theorem dX10_bits_21 : decode cX10_bits 21 = .ok (.ireturn, 1) := by decide +kernel
theorem dX10_lay_0 : decode cX10_lay 0 = .ok (.bipush 24, 2) := by decide +kernel
theorem dX10_lay_2 : decode cX10_lay 2 = .ok (.istore_n 2, 1) := by decide +kernel
theorem dX10_lay_3 : decode cX10_lay 3 = .ok (.iload_n 2, 1) := by decide +kernel
theorem dX10_lay_4 : decode cX10_lay 4 = .ok (.ifCond .lt 35, 3) := by decide +kernel
theorem dX10_lay_7 : decode cX10_lay 7 = .ok (.aload_n 0, 1) := by decide +kernel
theorem dX10_lay_8 : decode cX10_lay 8 = .ok (.getfield 7, 3) := by decide +kernel
theorem dX10_lay_11 : decode cX10_lay 11 = .ok (.aload_n 0, 1) := by decide +kernel
theorem dX10_lay_12 : decode cX10_lay 12 = .ok (.getfield 11, 3) := by decide +kernel
theorem dX10_lay_15 : decode cX10_lay 15 = .ok (.iload_n 1, 1) := by decide +kernel
theorem dX10_lay_16 : decode cX10_lay 16 = .ok (.iload_n 2, 1) := by decide +kernel
theorem dX10_lay_17 : decode cX10_lay 17 = .ok (.iushr, 1) := by decide +kernel
theorem dX10_lay_18 : decode cX10_lay 18 = .ok (.sipush 255, 3) := by decide +kernel
theorem dX10_lay_21 : decode cX10_lay 21 = .ok (.iand, 1) := by decide +kernel
theorem dX10_lay_22 : decode cX10_lay 22 = .ok (.iastore, 1) := by decide +kernel
theorem dX10_lay_23 : decode cX10_lay 23 = .ok (.aload_n 0, 1) := by decide +kernel
theorem dX10_lay_24 : decode cX10_lay 24 = .ok (.dup, 1) := by decide +kernel
theorem dX10_lay_25 : decode cX10_lay 25 = .ok (.getfield 11, 3) := by decide +kernel
theorem dX10_lay_28 : decode cX10_lay 28 = .ok (.iconst 1, 1) := by decide +kernel
theorem dX10_lay_29 : decode cX10_lay 29 = .ok (.iadd, 1) := by decide +kernel
theorem dX10_lay_30 : decode cX10_lay 30 = .ok (.putfield 11, 3) := by decide +kernel
theorem dX10_lay_33 : decode cX10_lay 33 = .ok (.iinc 2 (-8), 3) := by decide +kernel
theorem dX10_lay_36 : decode cX10_lay 36 = .ok (.goto (-33), 3) := by decide +kernel
theorem dX10_lay_39 : decode cX10_lay 39 = .ok (.return_, 1) := by decide +kernel
theorem dX10_feed_0 : decode cX10_feed 0 = .ok (.aload_n 0, 1) := by decide +kernel
theorem dX10_feed_1 : decode cX10_feed 1 = .ok (.iconst 0, 1) := by decide +kernel
theorem dX10_feed_2 : decode cX10_feed 2 = .ok (.putfield 1, 3) := by decide +kernel
theorem dX10_feed_5 : decode cX10_feed 5 = .ok (.aload_n 0, 1) := by decide +kernel
theorem dX10_feed_6 : decode cX10_feed 6 = .ok (.getfield 11, 3) := by decide +kernel
theorem dX10_feed_9 : decode cX10_feed 9 = .ok (.bipush 20, 2) := by decide +kernel
theorem dX10_feed_11 : decode cX10_feed 11 = .ok (.iadd, 1) := by decide +kernel
theorem dX10_feed_12 : decode cX10_feed 12 = .ok (.sipush 740, 3) := by decide +kernel
theorem dX10_feed_15 : decode cX10_feed 15 = .ok (.if_icmp .le 5, 3) := by decide +kernel
theorem dX10_feed_18 : decode cX10_feed 18 = .ok (.iconst (-1), 1) := by decide +kernel
theorem dX10_feed_19 : decode cX10_feed 19 = .ok (.ireturn, 1) := by decide +kernel
theorem dX10_feed_20 : decode cX10_feed 20 = .ok (.aload_n 0, 1) := by decide +kernel
theorem dX10_feed_21 : decode cX10_feed 21 = .ok (.iload_n 1, 1) := by decide +kernel
theorem dX10_feed_22 : decode cX10_feed 22 = .ok (.invokevirtual 14, 3) := by decide +kernel
theorem dX10_feed_25 : decode cX10_feed 25 = .ok (.aload_n 0, 1) := by decide +kernel
theorem dX10_feed_26 : decode cX10_feed 26 = .ok (.iload_n 2, 1) := by decide +kernel
theorem dX10_feed_27 : decode cX10_feed 27 = .ok (.invokevirtual 14, 3) := by decide +kernel
theorem dX10_feed_30 : decode cX10_feed 30 = .ok (.aload_n 0, 1) := by decide +kernel
theorem dX10_feed_31 : decode cX10_feed 31 = .ok (.iload_n 3, 1) := by decide +kernel
theorem dX10_feed_32 : decode cX10_feed 32 = .ok (.invokevirtual 14, 3) := by decide +kernel
theorem dX10_feed_35 : decode cX10_feed 35 = .ok (.aload_n 0, 1) := by decide +kernel
theorem dX10_feed_36 : decode cX10_feed 36 = .ok (.iload 4, 2) := by decide +kernel
theorem dX10_feed_38 : decode cX10_feed 38 = .ok (.invokevirtual 14, 3) := by decide +kernel
theorem dX10_feed_41 : decode cX10_feed 41 = .ok (.aload_n 0, 1) := by decide +kernel
theorem dX10_feed_42 : decode cX10_feed 42 = .ok (.iload 5, 2) := by decide +kernel
theorem dX10_feed_44 : decode cX10_feed 44 = .ok (.invokevirtual 14, 3) := by decide +kernel
theorem dX10_feed_47 : decode cX10_feed 47 = .ok (.aload_n 0, 1) := by decide +kernel
theorem dX10_feed_48 : decode cX10_feed 48 = .ok (.getfield 11, 3) := by decide +kernel
theorem dX10_feed_51 : decode cX10_feed 51 = .ok (.ireturn, 1) := by decide +kernel
theorem dX10_end_0 : decode cX10_end 0 = .ok (.aload_n 0, 1) := by decide +kernel
theorem dX10_end_1 : decode cX10_end 1 = .ok (.iconst 0, 1) := by decide +kernel
theorem dX10_end_2 : decode cX10_end 2 = .ok (.putfield 1, 3) := by decide +kernel
theorem dX10_end_5 : decode cX10_end 5 = .ok (.iload_n 1, 1) := by decide +kernel
theorem dX10_end_6 : decode cX10_end 6 = .ok (.ifCond .lt 11, 3) := by decide +kernel
theorem dX10_end_9 : decode cX10_end 9 = .ok (.iload_n 1, 1) := by decide +kernel
theorem dX10_end_10 : decode cX10_end 10 = .ok (.aload_n 0, 1) := by decide +kernel
theorem dX10_end_11 : decode cX10_end 11 = .ok (.getfield 11, 3) := by decide +kernel
theorem dX10_end_14 : decode cX10_end 14 = .ok (.if_icmp .le 5, 3) := by decide +kernel
theorem dX10_end_17 : decode cX10_end 17 = .ok (.iconst 0, 1) := by decide +kernel
theorem dX10_end_18 : decode cX10_end 18 = .ok (.ireturn, 1) := by decide +kernel
theorem dX10_end_19 : decode cX10_end 19 = .ok (.aload_n 0, 1) := by decide +kernel
theorem dX10_end_20 : decode cX10_end 20 = .ok (.iload_n 1, 1) := by decide +kernel
theorem dX10_end_21 : decode cX10_end 21 = .ok (.putfield 11, 3) := by decide +kernel
theorem dX10_end_24 : decode cX10_end 24 = .ok (.iconst 1, 1) := by decide +kernel
theorem dX10_end_25 : decode cX10_end 25 = .ok (.ireturn, 1) := by decide +kernel
theorem dX10_tapeAt_0 : decode cX10_tapeAt 0 = .ok (.iload_n 1, 1) := by decide +kernel
theorem dX10_tapeAt_1 : decode cX10_tapeAt 1 = .ok (.aload_n 0, 1) := by decide +kernel
theorem dX10_tapeAt_2 : decode cX10_tapeAt 2 = .ok (.getfield 18, 3) := by decide +kernel
theorem dX10_tapeAt_5 : decode cX10_tapeAt 5 = .ok (.if_icmp .ge 12, 3) := by decide +kernel
theorem dX10_tapeAt_8 : decode cX10_tapeAt 8 = .ok (.aload_n 0, 1) := by decide +kernel
theorem dX10_tapeAt_9 : decode cX10_tapeAt 9 = .ok (.getfield 7, 3) := by decide +kernel
theorem dX10_tapeAt_12 : decode cX10_tapeAt 12 = .ok (.iload_n 1, 1) := by decide +kernel
theorem dX10_tapeAt_13 : decode cX10_tapeAt 13 = .ok (.iaload, 1) := by decide +kernel
theorem dX10_tapeAt_14 : decode cX10_tapeAt 14 = .ok (.goto 4, 3) := by decide +kernel
theorem dX10_tapeAt_17 : decode cX10_tapeAt 17 = .ok (.iconst 0, 1) := by decide +kernel
theorem dX10_tapeAt_18 : decode cX10_tapeAt 18 = .ok (.ireturn, 1) := by decide +kernel
theorem dX10_isLetter_0 : decode cX10_isLetter 0 = .ok (.iload_n 0, 1) := by decide +kernel
theorem dX10_isLetter_1 : decode cX10_isLetter 1 = .ok (.bipush 97, 2) := by decide +kernel
theorem dX10_isLetter_3 : decode cX10_isLetter 3 = .ok (.if_icmp .lt 13, 3) := by decide +kernel
theorem dX10_isLetter_6 : decode cX10_isLetter 6 = .ok (.iload_n 0, 1) := by decide +kernel
theorem dX10_isLetter_7 : decode cX10_isLetter 7 = .ok (.bipush 122, 2) := by decide +kernel
theorem dX10_isLetter_9 : decode cX10_isLetter 9 = .ok (.if_icmp .gt 7, 3) := by decide +kernel
theorem dX10_isLetter_12 : decode cX10_isLetter 12 = .ok (.iconst 1, 1) := by decide +kernel
theorem dX10_isLetter_13 : decode cX10_isLetter 13 = .ok (.goto 4, 3) := by decide +kernel
theorem dX10_isLetter_16 : decode cX10_isLetter 16 = .ok (.iconst 0, 1) := by decide +kernel
theorem dX10_isLetter_17 : decode cX10_isLetter 17 = .ok (.ireturn, 1) := by decide +kernel
theorem dX10_next_0 : decode cX10_next 0 = .ok (.aload_n 0, 1) := by decide +kernel
theorem dX10_next_1 : decode cX10_next 1 = .ok (.getfield 21, 3) := by decide +kernel
theorem dX10_next_4 : decode cX10_next 4 = .ok (.aload_n 0, 1) := by decide +kernel
theorem dX10_next_5 : decode cX10_next 5 = .ok (.getfield 18, 3) := by decide +kernel
theorem dX10_next_8 : decode cX10_next 8 = .ok (.if_icmp .ge 44, 3) := by decide +kernel
theorem dX10_next_11 : decode cX10_next 11 = .ok (.aload_n 0, 1) := by decide +kernel
theorem dX10_next_12 : decode cX10_next 12 = .ok (.getfield 7, 3) := by decide +kernel
theorem dX10_next_15 : decode cX10_next 15 = .ok (.aload_n 0, 1) := by decide +kernel
theorem dX10_next_16 : decode cX10_next 16 = .ok (.getfield 21, 3) := by decide +kernel
theorem dX10_next_19 : decode cX10_next 19 = .ok (.iaload, 1) := by decide +kernel
theorem dX10_next_20 : decode cX10_next 20 = .ok (.bipush 32, 2) := by decide +kernel
theorem dX10_next_22 : decode cX10_next 22 = .ok (.if_icmp .eq 17, 3) := by decide +kernel
theorem dX10_next_25 : decode cX10_next 25 = .ok (.aload_n 0, 1) := by decide +kernel
theorem dX10_next_26 : decode cX10_next 26 = .ok (.getfield 7, 3) := by decide +kernel
theorem dX10_next_29 : decode cX10_next 29 = .ok (.aload_n 0, 1) := by decide +kernel
theorem dX10_next_30 : decode cX10_next 30 = .ok (.getfield 21, 3) := by decide +kernel
theorem dX10_next_33 : decode cX10_next 33 = .ok (.iaload, 1) := by decide +kernel
theorem dX10_next_34 : decode cX10_next 34 = .ok (.bipush 10, 2) := by decide +kernel
theorem dX10_next_36 : decode cX10_next 36 = .ok (.if_icmp .ne 16, 3) := by decide +kernel
theorem dX10_next_39 : decode cX10_next 39 = .ok (.aload_n 0, 1) := by decide +kernel
theorem dX10_next_40 : decode cX10_next 40 = .ok (.dup, 1) := by decide +kernel
theorem dX10_next_41 : decode cX10_next 41 = .ok (.getfield 21, 3) := by decide +kernel
theorem dX10_next_44 : decode cX10_next 44 = .ok (.iconst 1, 1) := by decide +kernel
theorem dX10_next_45 : decode cX10_next 45 = .ok (.iadd, 1) := by decide +kernel
theorem dX10_next_46 : decode cX10_next 46 = .ok (.putfield 21, 3) := by decide +kernel
theorem dX10_next_49 : decode cX10_next 49 = .ok (.goto (-49), 3) := by decide +kernel
theorem dX10_next_52 : decode cX10_next 52 = .ok (.aload_n 0, 1) := by decide +kernel
theorem dX10_next_53 : decode cX10_next 53 = .ok (.aload_n 0, 1) := by decide +kernel
theorem dX10_next_54 : decode cX10_next 54 = .ok (.getfield 21, 3) := by decide +kernel
theorem dX10_next_57 : decode cX10_next 57 = .ok (.putfield 24, 3) := by decide +kernel
theorem dX10_next_60 : decode cX10_next 60 = .ok (.aload_n 0, 1) := by decide +kernel
theorem dX10_next_61 : decode cX10_next 61 = .ok (.getfield 18, 3) := by decide +kernel
theorem dX10_next_64 : decode cX10_next 64 = .ok (.sipush 700, 3) := by decide +kernel
theorem dX10_next_67 : decode cX10_next 67 = .ok (.if_icmp .le 26, 3) := by decide +kernel
theorem dX10_next_70 : decode cX10_next 70 = .ok (.aload_n 0, 1) := by decide +kernel
theorem dX10_next_71 : decode cX10_next 71 = .ok (.getfield 24, 3) := by decide +kernel
theorem dX10_next_74 : decode cX10_next 74 = .ok (.sipush 700, 3) := by decide +kernel
theorem dX10_next_77 : decode cX10_next 77 = .ok (.if_icmp .lt 16, 3) := by decide +kernel
theorem dX10_next_80 : decode cX10_next 80 = .ok (.aload_n 0, 1) := by decide +kernel
theorem dX10_next_81 : decode cX10_next 81 = .ok (.sipush 700, 3) := by decide +kernel
theorem dX10_next_84 : decode cX10_next 84 = .ok (.putfield 24, 3) := by decide +kernel
theorem dX10_next_87 : decode cX10_next 87 = .ok (.aload_n 0, 1) := by decide +kernel
theorem dX10_next_88 : decode cX10_next 88 = .ok (.iconst 1, 1) := by decide +kernel
theorem dX10_next_89 : decode cX10_next 89 = .ok (.putfield 27, 3) := by decide +kernel
theorem dX10_next_92 : decode cX10_next 92 = .ok (.return_, 1) := by decide +kernel
theorem dX10_next_93 : decode cX10_next 93 = .ok (.aload_n 0, 1) := by decide +kernel
theorem dX10_next_94 : decode cX10_next 94 = .ok (.getfield 21, 3) := by decide +kernel
theorem dX10_next_97 : decode cX10_next 97 = .ok (.aload_n 0, 1) := by decide +kernel
theorem dX10_next_98 : decode cX10_next 98 = .ok (.getfield 18, 3) := by decide +kernel
theorem dX10_next_101 : decode cX10_next 101 = .ok (.if_icmp .lt 9, 3) := by decide +kernel
theorem dX10_next_104 : decode cX10_next 104 = .ok (.aload_n 0, 1) := by decide +kernel
theorem dX10_next_105 : decode cX10_next 105 = .ok (.iconst 0, 1) := by decide +kernel
theorem dX10_next_106 : decode cX10_next 106 = .ok (.putfield 27, 3) := by decide +kernel
theorem dX10_next_109 : decode cX10_next 109 = .ok (.return_, 1) := by decide +kernel
theorem dX10_next_110 : decode cX10_next 110 = .ok (.aload_n 0, 1) := by decide +kernel
theorem dX10_next_111 : decode cX10_next 111 = .ok (.getfield 7, 3) := by decide +kernel
theorem dX10_next_114 : decode cX10_next 114 = .ok (.aload_n 0, 1) := by decide +kernel
theorem dX10_next_115 : decode cX10_next 115 = .ok (.getfield 21, 3) := by decide +kernel
theorem dX10_next_118 : decode cX10_next 118 = .ok (.iaload, 1) := by decide +kernel
theorem dX10_next_119 : decode cX10_next 119 = .ok (.invokestatic 30, 3) := by decide +kernel
theorem dX10_next_122 : decode cX10_next 122 = .ok (.ifCond .ne 37, 3) := by decide +kernel
theorem dX10_next_125 : decode cX10_next 125 = .ok (.aload_n 0, 1) := by decide +kernel
theorem dX10_next_126 : decode cX10_next 126 = .ok (.aload_n 0, 1) := by decide +kernel
theorem dX10_next_127 : decode cX10_next 127 = .ok (.getfield 7, 3) := by decide +kernel
theorem dX10_next_130 : decode cX10_next 130 = .ok (.aload_n 0, 1) := by decide +kernel
theorem dX10_next_131 : decode cX10_next 131 = .ok (.getfield 21, 3) := by decide +kernel
theorem dX10_next_134 : decode cX10_next 134 = .ok (.iaload, 1) := by decide +kernel
theorem dX10_next_135 : decode cX10_next 135 = .ok (.bipush 59, 2) := by decide +kernel
theorem dX10_next_137 : decode cX10_next 137 = .ok (.if_icmp .ne 7, 3) := by decide +kernel
theorem dX10_next_140 : decode cX10_next 140 = .ok (.iconst 3, 1) := by decide +kernel
theorem dX10_next_141 : decode cX10_next 141 = .ok (.goto 4, 3) := by decide +kernel
theorem dX10_next_144 : decode cX10_next 144 = .ok (.iconst 1, 1) := by decide +kernel
theorem dX10_next_145 : decode cX10_next 145 = .ok (.putfield 27, 3) := by decide +kernel
theorem dX10_next_148 : decode cX10_next 148 = .ok (.aload_n 0, 1) := by decide +kernel
theorem dX10_next_149 : decode cX10_next 149 = .ok (.dup, 1) := by decide +kernel
theorem dX10_next_150 : decode cX10_next 150 = .ok (.getfield 21, 3) := by decide +kernel
theorem dX10_next_153 : decode cX10_next 153 = .ok (.iconst 1, 1) := by decide +kernel
theorem dX10_next_154 : decode cX10_next 154 = .ok (.iadd, 1) := by decide +kernel
theorem dX10_next_155 : decode cX10_next 155 = .ok (.putfield 21, 3) := by decide +kernel
theorem dX10_next_158 : decode cX10_next 158 = .ok (.return_, 1) := by decide +kernel
theorem dX10_next_159 : decode cX10_next 159 = .ok (.aload_n 0, 1) := by decide +kernel
theorem dX10_next_160 : decode cX10_next 160 = .ok (.lconst 0, 1) := by decide +kernel
theorem dX10_next_161 : decode cX10_next 161 = .ok (.putfield 34, 3) := by decide +kernel
theorem dX10_next_164 : decode cX10_next 164 = .ok (.aload_n 0, 1) := by decide +kernel
theorem dX10_next_165 : decode cX10_next 165 = .ok (.aload_n 0, 1) := by decide +kernel
theorem dX10_next_166 : decode cX10_next 166 = .ok (.getfield 21, 3) := by decide +kernel
theorem dX10_next_169 : decode cX10_next 169 = .ok (.invokevirtual 38, 3) := by decide +kernel
theorem dX10_next_172 : decode cX10_next 172 = .ok (.invokestatic 30, 3) := by decide +kernel
theorem dX10_next_175 : decode cX10_next 175 = .ok (.ifCond .eq 57, 3) := by decide +kernel
theorem dX10_next_178 : decode cX10_next 178 = .ok (.aload_n 0, 1) := by decide +kernel
theorem dX10_next_179 : decode cX10_next 179 = .ok (.getfield 21, 3) := by decide +kernel
theorem dX10_next_182 : decode cX10_next 182 = .ok (.aload_n 0, 1) := by decide +kernel
theorem dX10_next_183 : decode cX10_next 183 = .ok (.getfield 24, 3) := by decide +kernel
theorem dX10_next_186 : decode cX10_next 186 = .ok (.isub, 1) := by decide +kernel
theorem dX10_next_187 : decode cX10_next 187 = .ok (.bipush 7, 2) := by decide +kernel
theorem dX10_next_189 : decode cX10_next 189 = .ok (.if_icmp .ge 30, 3) := by decide +kernel
theorem dX10_next_192 : decode cX10_next 192 = .ok (.aload_n 0, 1) := by decide +kernel
theorem dX10_next_193 : decode cX10_next 193 = .ok (.ldc2_w 42, 3) := by decide +kernel
theorem dX10_next_196 : decode cX10_next 196 = .ok (.aload_n 0, 1) := by decide +kernel
theorem dX10_next_197 : decode cX10_next 197 = .ok (.getfield 34, 3) := by decide +kernel
theorem dX10_next_200 : decode cX10_next 200 = .ok (.lmul, 1) := by decide +kernel
theorem dX10_next_201 : decode cX10_next 201 = .ok (.aload_n 0, 1) := by decide +kernel
theorem dX10_next_202 : decode cX10_next 202 = .ok (.getfield 7, 3) := by decide +kernel
theorem dX10_next_205 : decode cX10_next 205 = .ok (.aload_n 0, 1) := by decide +kernel
theorem dX10_next_206 : decode cX10_next 206 = .ok (.getfield 21, 3) := by decide +kernel
theorem dX10_next_209 : decode cX10_next 209 = .ok (.iaload, 1) := by decide +kernel
theorem dX10_next_210 : decode cX10_next 210 = .ok (.i2l, 1) := by decide +kernel
theorem dX10_next_211 : decode cX10_next 211 = .ok (.ladd, 1) := by decide +kernel
theorem dX10_next_212 : decode cX10_next 212 = .ok (.ldc2_w 44, 3) := by decide +kernel
theorem dX10_next_215 : decode cX10_next 215 = .ok (.lsub, 1) := by decide +kernel
theorem dX10_next_216 : decode cX10_next 216 = .ok (.putfield 34, 3) := by decide +kernel
theorem dX10_next_219 : decode cX10_next 219 = .ok (.aload_n 0, 1) := by decide +kernel
theorem dX10_next_220 : decode cX10_next 220 = .ok (.dup, 1) := by decide +kernel
theorem dX10_next_221 : decode cX10_next 221 = .ok (.getfield 21, 3) := by decide +kernel
theorem dX10_next_224 : decode cX10_next 224 = .ok (.iconst 1, 1) := by decide +kernel
theorem dX10_next_225 : decode cX10_next 225 = .ok (.iadd, 1) := by decide +kernel
theorem dX10_next_226 : decode cX10_next 226 = .ok (.putfield 21, 3) := by decide +kernel
theorem dX10_next_229 : decode cX10_next 229 = .ok (.goto (-65), 3) := by decide +kernel
theorem dX10_next_232 : decode cX10_next 232 = .ok (.aload_n 0, 1) := by decide +kernel
theorem dX10_next_233 : decode cX10_next 233 = .ok (.aload_n 0, 1) := by decide +kernel
theorem dX10_next_234 : decode cX10_next 234 = .ok (.getfield 21, 3) := by decide +kernel
theorem dX10_next_237 : decode cX10_next 237 = .ok (.aload_n 0, 1) := by decide +kernel
theorem dX10_next_238 : decode cX10_next 238 = .ok (.getfield 24, 3) := by decide +kernel
theorem dX10_next_241 : decode cX10_next 241 = .ok (.isub, 1) := by decide +kernel
theorem dX10_next_242 : decode cX10_next 242 = .ok (.bipush 7, 2) := by decide +kernel
theorem dX10_next_244 : decode cX10_next 244 = .ok (.if_icmp .le 7, 3) := by decide +kernel
theorem dX10_next_247 : decode cX10_next 247 = .ok (.iconst 1, 1) := by decide +kernel
theorem dX10_next_248 : decode cX10_next 248 = .ok (.goto 4, 3) := by decide +kernel
theorem dX10_next_251 : decode cX10_next 251 = .ok (.iconst 2, 1) := by decide +kernel
theorem dX10_next_252 : decode cX10_next 252 = .ok (.putfield 27, 3) := by decide +kernel
theorem dX10_next_255 : decode cX10_next 255 = .ok (.return_, 1) := by decide +kernel
theorem dX10_spelt_0 : decode cX10_spelt 0 = .ok (.ldc2_w 42, 3) := by decide +kernel
theorem dX10_spelt_3 : decode cX10_spelt 3 = .ok (.ldc2_w 42, 3) := by decide +kernel
theorem dX10_spelt_6 : decode cX10_spelt 6 = .ok (.ldc2_w 42, 3) := by decide +kernel
theorem dX10_spelt_9 : decode cX10_spelt 9 = .ok (.iload_n 0, 1) := by decide +kernel
theorem dX10_spelt_10 : decode cX10_spelt 10 = .ok (.i2l, 1) := by decide +kernel
theorem dX10_spelt_11 : decode cX10_spelt 11 = .ok (.ldc2_w 44, 3) := by decide +kernel
theorem dX10_spelt_14 : decode cX10_spelt 14 = .ok (.lsub, 1) := by decide +kernel
theorem dX10_spelt_15 : decode cX10_spelt 15 = .ok (.lmul, 1) := by decide +kernel
theorem dX10_spelt_16 : decode cX10_spelt 16 = .ok (.iload_n 1, 1) := by decide +kernel
theorem dX10_spelt_17 : decode cX10_spelt 17 = .ok (.i2l, 1) := by decide +kernel
theorem dX10_spelt_18 : decode cX10_spelt 18 = .ok (.ladd, 1) := by decide +kernel
theorem dX10_spelt_19 : decode cX10_spelt 19 = .ok (.ldc2_w 44, 3) := by decide +kernel
theorem dX10_spelt_22 : decode cX10_spelt 22 = .ok (.lsub, 1) := by decide +kernel
theorem dX10_spelt_23 : decode cX10_spelt 23 = .ok (.lmul, 1) := by decide +kernel
theorem dX10_spelt_24 : decode cX10_spelt 24 = .ok (.iload_n 2, 1) := by decide +kernel
theorem dX10_spelt_25 : decode cX10_spelt 25 = .ok (.i2l, 1) := by decide +kernel
theorem dX10_spelt_26 : decode cX10_spelt 26 = .ok (.ladd, 1) := by decide +kernel
theorem dX10_spelt_27 : decode cX10_spelt 27 = .ok (.ldc2_w 44, 3) := by decide +kernel
theorem dX10_spelt_30 : decode cX10_spelt 30 = .ok (.lsub, 1) := by decide +kernel
theorem dX10_spelt_31 : decode cX10_spelt 31 = .ok (.lmul, 1) := by decide +kernel
theorem dX10_spelt_32 : decode cX10_spelt 32 = .ok (.iload_n 3, 1) := by decide +kernel
theorem dX10_spelt_33 : decode cX10_spelt 33 = .ok (.i2l, 1) := by decide +kernel
theorem dX10_spelt_34 : decode cX10_spelt 34 = .ok (.ladd, 1) := by decide +kernel
theorem dX10_spelt_35 : decode cX10_spelt 35 = .ok (.ldc2_w 44, 3) := by decide +kernel
theorem dX10_spelt_38 : decode cX10_spelt 38 = .ok (.lsub, 1) := by decide +kernel
theorem dX10_spelt_39 : decode cX10_spelt 39 = .ok (.lstore 6, 2) := by decide +kernel
theorem dX10_spelt_41 : decode cX10_spelt 41 = .ok (.iload 4, 2) := by decide +kernel
theorem dX10_spelt_43 : decode cX10_spelt 43 = .ok (.ifCond .le 32, 3) := by decide +kernel
theorem dX10_spelt_46 : decode cX10_spelt 46 = .ok (.ldc2_w 42, 3) := by decide +kernel
theorem dX10_spelt_49 : decode cX10_spelt 49 = .ok (.ldc2_w 42, 3) := by decide +kernel
theorem dX10_spelt_52 : decode cX10_spelt 52 = .ok (.lload 6, 2) := by decide +kernel
theorem dX10_spelt_54 : decode cX10_spelt 54 = .ok (.lmul, 1) := by decide +kernel
theorem dX10_spelt_55 : decode cX10_spelt 55 = .ok (.iload 4, 2) := by decide +kernel
theorem dX10_spelt_57 : decode cX10_spelt 57 = .ok (.i2l, 1) := by decide +kernel
theorem dX10_spelt_58 : decode cX10_spelt 58 = .ok (.ladd, 1) := by decide +kernel
theorem dX10_spelt_59 : decode cX10_spelt 59 = .ok (.ldc2_w 44, 3) := by decide +kernel
theorem dX10_spelt_62 : decode cX10_spelt 62 = .ok (.lsub, 1) := by decide +kernel
theorem dX10_spelt_63 : decode cX10_spelt 63 = .ok (.lmul, 1) := by decide +kernel
theorem dX10_spelt_64 : decode cX10_spelt 64 = .ok (.iload 5, 2) := by decide +kernel
theorem dX10_spelt_66 : decode cX10_spelt 66 = .ok (.i2l, 1) := by decide +kernel
theorem dX10_spelt_67 : decode cX10_spelt 67 = .ok (.ladd, 1) := by decide +kernel
theorem dX10_spelt_68 : decode cX10_spelt 68 = .ok (.ldc2_w 44, 3) := by decide +kernel
theorem dX10_spelt_71 : decode cX10_spelt 71 = .ok (.lsub, 1) := by decide +kernel
theorem dX10_spelt_72 : decode cX10_spelt 72 = .ok (.goto 5, 3) := by decide +kernel
theorem dX10_spelt_75 : decode cX10_spelt 75 = .ok (.lload 6, 2) := by decide +kernel
theorem dX10_spelt_77 : decode cX10_spelt 77 = .ok (.lreturn, 1) := by decide +kernel
theorem dX10_isItemWord_0 : decode cX10_isItemWord 0 = .ok (.aload_n 0, 1) := by decide +kernel
theorem dX10_isItemWord_1 : decode cX10_isItemWord 1 = .ok (.getfield 27, 3) := by decide +kernel
theorem dX10_isItemWord_4 : decode cX10_isItemWord 4 = .ok (.iconst 2, 1) := by decide +kernel
theorem dX10_isItemWord_5 : decode cX10_isItemWord 5 = .ok (.if_icmp .ne 28, 3) := by decide +kernel
theorem dX10_isItemWord_8 : decode cX10_isItemWord 8 = .ok (.aload_n 0, 1) := by decide +kernel
theorem dX10_isItemWord_9 : decode cX10_isItemWord 9 = .ok (.getfield 34, 3) := by decide +kernel
theorem dX10_isItemWord_12 : decode cX10_isItemWord 12 = .ok (.bipush 105, 2) := by decide +kernel
theorem dX10_isItemWord_14 : decode cX10_isItemWord 14 = .ok (.bipush 116, 2) := by decide +kernel
theorem dX10_isItemWord_16 : decode cX10_isItemWord 16 = .ok (.bipush 101, 2) := by decide +kernel
theorem dX10_isItemWord_18 : decode cX10_isItemWord 18 = .ok (.bipush 109, 2) := by decide +kernel
theorem dX10_isItemWord_20 : decode cX10_isItemWord 20 = .ok (.iconst 0, 1) := by decide +kernel
theorem dX10_isItemWord_21 : decode cX10_isItemWord 21 = .ok (.iconst 0, 1) := by decide +kernel
theorem dX10_isItemWord_22 : decode cX10_isItemWord 22 = .ok (.invokestatic 46, 3) := by decide +kernel
theorem dX10_isItemWord_25 : decode cX10_isItemWord 25 = .ok (.lcmp, 1) := by decide +kernel
theorem dX10_isItemWord_26 : decode cX10_isItemWord 26 = .ok (.ifCond .ne 7, 3) := by decide +kernel
theorem dX10_isItemWord_29 : decode cX10_isItemWord 29 = .ok (.iconst 1, 1) := by decide +kernel
theorem dX10_isItemWord_30 : decode cX10_isItemWord 30 = .ok (.goto 4, 3) := by decide +kernel
theorem dX10_isItemWord_33 : decode cX10_isItemWord 33 = .ok (.iconst 0, 1) := by decide +kernel
theorem dX10_isItemWord_34 : decode cX10_isItemWord 34 = .ok (.ireturn, 1) := by decide +kernel
theorem dX10_kindWord_0 : decode cX10_kindWord 0 = .ok (.aload_n 0, 1) := by decide +kernel
theorem dX10_kindWord_1 : decode cX10_kindWord 1 = .ok (.getfield 27, 3) := by decide +kernel
theorem dX10_kindWord_4 : decode cX10_kindWord 4 = .ok (.iconst 2, 1) := by decide +kernel
theorem dX10_kindWord_5 : decode cX10_kindWord 5 = .ok (.if_icmp .eq 7, 3) := by decide +kernel
theorem dX10_kindWord_8 : decode cX10_kindWord 8 = .ok (.iconst (-1), 1) := by decide +kernel
theorem dX10_kindWord_9 : decode cX10_kindWord 9 = .ok (.goto 58, 3) := by decide +kernel
theorem dX10_kindWord_12 : decode cX10_kindWord 12 = .ok (.aload_n 0, 1) := by decide +kernel
theorem dX10_kindWord_13 : decode cX10_kindWord 13 = .ok (.getfield 34, 3) := by decide +kernel
theorem dX10_kindWord_16 : decode cX10_kindWord 16 = .ok (.bipush 98, 2) := by decide +kernel
theorem dX10_kindWord_18 : decode cX10_kindWord 18 = .ok (.bipush 101, 2) := by decide +kernel
theorem dX10_kindWord_20 : decode cX10_kindWord 20 = .ok (.bipush 102, 2) := by decide +kernel
theorem dX10_kindWord_22 : decode cX10_kindWord 22 = .ok (.bipush 111, 2) := by decide +kernel
theorem dX10_kindWord_24 : decode cX10_kindWord 24 = .ok (.bipush 114, 2) := by decide +kernel
theorem dX10_kindWord_26 : decode cX10_kindWord 26 = .ok (.bipush 101, 2) := by decide +kernel
theorem dX10_kindWord_28 : decode cX10_kindWord 28 = .ok (.invokestatic 46, 3) := by decide +kernel
theorem dX10_kindWord_31 : decode cX10_kindWord 31 = .ok (.lcmp, 1) := by decide +kernel
theorem dX10_kindWord_32 : decode cX10_kindWord 32 = .ok (.ifCond .ne 7, 3) := by decide +kernel
theorem dX10_kindWord_35 : decode cX10_kindWord 35 = .ok (.iconst 0, 1) := by decide +kernel
theorem dX10_kindWord_36 : decode cX10_kindWord 36 = .ok (.goto 31, 3) := by decide +kernel
theorem dX10_kindWord_39 : decode cX10_kindWord 39 = .ok (.aload_n 0, 1) := by decide +kernel
theorem dX10_kindWord_40 : decode cX10_kindWord 40 = .ok (.getfield 34, 3) := by decide +kernel
theorem dX10_kindWord_43 : decode cX10_kindWord 43 = .ok (.bipush 98, 2) := by decide +kernel
theorem dX10_kindWord_45 : decode cX10_kindWord 45 = .ok (.bipush 101, 2) := by decide +kernel
theorem dX10_kindWord_47 : decode cX10_kindWord 47 = .ok (.bipush 115, 2) := by decide +kernel
theorem dX10_kindWord_49 : decode cX10_kindWord 49 = .ok (.bipush 105, 2) := by decide +kernel
theorem dX10_kindWord_51 : decode cX10_kindWord 51 = .ok (.bipush 100, 2) := by decide +kernel
theorem dX10_kindWord_53 : decode cX10_kindWord 53 = .ok (.bipush 101, 2) := by decide +kernel
theorem dX10_kindWord_55 : decode cX10_kindWord 55 = .ok (.invokestatic 46, 3) := by decide +kernel
theorem dX10_kindWord_58 : decode cX10_kindWord 58 = .ok (.lcmp, 1) := by decide +kernel
theorem dX10_kindWord_59 : decode cX10_kindWord 59 = .ok (.ifCond .ne 7, 3) := by decide +kernel
theorem dX10_kindWord_62 : decode cX10_kindWord 62 = .ok (.iconst 1, 1) := by decide +kernel
theorem dX10_kindWord_63 : decode cX10_kindWord 63 = .ok (.goto 4, 3) := by decide +kernel
theorem dX10_kindWord_66 : decode cX10_kindWord 66 = .ok (.iconst (-1), 1) := by decide +kernel
theorem dX10_kindWord_67 : decode cX10_kindWord 67 = .ok (.ireturn, 1) := by decide +kernel
theorem dX10_isName_0 : decode cX10_isName 0 = .ok (.aload_n 0, 1) := by decide +kernel
theorem dX10_isName_1 : decode cX10_isName 1 = .ok (.getfield 27, 3) := by decide +kernel
theorem dX10_isName_4 : decode cX10_isName 4 = .ok (.iconst 2, 1) := by decide +kernel
theorem dX10_isName_5 : decode cX10_isName 5 = .ok (.if_icmp .ne 22, 3) := by decide +kernel
theorem dX10_isName_8 : decode cX10_isName 8 = .ok (.aload_n 0, 1) := by decide +kernel
theorem dX10_isName_9 : decode cX10_isName 9 = .ok (.invokevirtual 50, 3) := by decide +kernel
theorem dX10_isName_12 : decode cX10_isName 12 = .ok (.ifCond .ne 15, 3) := by decide +kernel
theorem dX10_isName_15 : decode cX10_isName 15 = .ok (.aload_n 0, 1) := by decide +kernel
theorem dX10_isName_16 : decode cX10_isName 16 = .ok (.invokevirtual 54, 3) := by decide +kernel
theorem dX10_isName_19 : decode cX10_isName 19 = .ok (.iconst (-1), 1) := by decide +kernel
theorem dX10_isName_20 : decode cX10_isName 20 = .ok (.if_icmp .ne 7, 3) := by decide +kernel
theorem dX10_isName_23 : decode cX10_isName 23 = .ok (.iconst 1, 1) := by decide +kernel
theorem dX10_isName_24 : decode cX10_isName 24 = .ok (.goto 4, 3) := by decide +kernel
theorem dX10_isName_27 : decode cX10_isName 27 = .ok (.iconst 0, 1) := by decide +kernel
theorem dX10_isName_28 : decode cX10_isName 28 = .ok (.ireturn, 1) := by decide +kernel
theorem dX10_badAt_0 : decode cX10_badAt 0 = .ok (.aload_n 0, 1) := by decide +kernel
theorem dX10_badAt_1 : decode cX10_badAt 1 = .ok (.iload_n 1, 1) := by decide +kernel
theorem dX10_badAt_2 : decode cX10_badAt 2 = .ok (.putfield 58, 3) := by decide +kernel
theorem dX10_badAt_5 : decode cX10_badAt 5 = .ok (.aload_n 0, 1) := by decide +kernel
theorem dX10_badAt_6 : decode cX10_badAt 6 = .ok (.iload_n 2, 1) := by decide +kernel
theorem dX10_badAt_7 : decode cX10_badAt 7 = .ok (.putfield 61, 3) := by decide +kernel
theorem dX10_badAt_10 : decode cX10_badAt 10 = .ok (.iconst 0, 1) := by decide +kernel
theorem dX10_badAt_11 : decode cX10_badAt 11 = .ok (.ireturn, 1) := by decide +kernel
theorem dX10_bad_0 : decode cX10_bad 0 = .ok (.aload_n 0, 1) := by decide +kernel
theorem dX10_bad_1 : decode cX10_bad 1 = .ok (.aload_n 0, 1) := by decide +kernel
theorem dX10_bad_2 : decode cX10_bad 2 = .ok (.getfield 27, 3) := by decide +kernel
theorem dX10_bad_5 : decode cX10_bad 5 = .ok (.iconst 1, 1) := by decide +kernel
theorem dX10_bad_6 : decode cX10_bad 6 = .ok (.if_icmp .ne 7, 3) := by decide +kernel
theorem dX10_bad_9 : decode cX10_bad 9 = .ok (.iconst 1, 1) := by decide +kernel
theorem dX10_bad_10 : decode cX10_bad 10 = .ok (.goto 4, 3) := by decide +kernel
theorem dX10_bad_13 : decode cX10_bad 13 = .ok (.iload_n 1, 1) := by decide +kernel
theorem dX10_bad_14 : decode cX10_bad 14 = .ok (.aload_n 0, 1) := by decide +kernel
theorem dX10_bad_15 : decode cX10_bad 15 = .ok (.getfield 24, 3) := by decide +kernel
theorem dX10_bad_18 : decode cX10_bad 18 = .ok (.invokevirtual 64, 3) := by decide +kernel
theorem dX10_bad_21 : decode cX10_bad 21 = .ok (.ireturn, 1) := by decide +kernel
theorem dX10_init_0 : decode cX10_init 0 = .ok (.aload_n 0, 1) := by decide +kernel
theorem dX10_init_1 : decode cX10_init 1 = .ok (.invokespecial 68, 3) := by decide +kernel
theorem dX10_init_4 : decode cX10_init 4 = .ok (.aload_n 0, 1) := by decide +kernel
theorem dX10_init_5 : decode cX10_init 5 = .ok (.sipush 740, 3) := by decide +kernel
theorem dX10_init_8 : decode cX10_init 8 = .ok (.newarray .int, 2) := by decide +kernel
theorem dX10_init_10 : decode cX10_init 10 = .ok (.putfield 7, 3) := by decide +kernel
theorem dX10_init_13 : decode cX10_init 13 = .ok (.aload_n 0, 1) := by decide +kernel
theorem dX10_init_14 : decode cX10_init 14 = .ok (.bipush 86, 2) := by decide +kernel
theorem dX10_init_16 : decode cX10_init 16 = .ok (.newarray .int, 2) := by decide +kernel
theorem dX10_init_18 : decode cX10_init 18 = .ok (.putfield 74, 3) := by decide +kernel
theorem dX10_init_21 : decode cX10_init 21 = .ok (.aload_n 0, 1) := by decide +kernel
theorem dX10_init_22 : decode cX10_init 22 = .ok (.bipush 86, 2) := by decide +kernel
theorem dX10_init_24 : decode cX10_init 24 = .ok (.newarray .int, 2) := by decide +kernel
theorem dX10_init_26 : decode cX10_init 26 = .ok (.putfield 77, 3) := by decide +kernel
theorem dX10_init_29 : decode cX10_init 29 = .ok (.aload_n 0, 1) := by decide +kernel
theorem dX10_init_30 : decode cX10_init 30 = .ok (.sipush 172, 3) := by decide +kernel
theorem dX10_init_33 : decode cX10_init 33 = .ok (.newarray .int, 2) := by decide +kernel
theorem dX10_init_35 : decode cX10_init 35 = .ok (.putfield 80, 3) := by decide +kernel
theorem dX10_init_38 : decode cX10_init 38 = .ok (.aload_n 0, 1) := by decide +kernel
theorem dX10_init_39 : decode cX10_init 39 = .ok (.sipush 688, 3) := by decide +kernel
theorem dX10_init_42 : decode cX10_init 42 = .ok (.newarray .int, 2) := by decide +kernel
theorem dX10_init_44 : decode cX10_init 44 = .ok (.putfield 83, 3) := by decide +kernel
theorem dX10_init_47 : decode cX10_init 47 = .ok (.aload_n 0, 1) := by decide +kernel
theorem dX10_init_48 : decode cX10_init 48 = .ok (.bipush 86, 2) := by decide +kernel
theorem dX10_init_50 : decode cX10_init 50 = .ok (.newarray .int, 2) := by decide +kernel
theorem dX10_init_52 : decode cX10_init 52 = .ok (.putfield 86, 3) := by decide +kernel
theorem dX10_init_55 : decode cX10_init 55 = .ok (.aload_n 0, 1) := by decide +kernel
theorem dX10_init_56 : decode cX10_init 56 = .ok (.bipush 86, 2) := by decide +kernel
theorem dX10_init_58 : decode cX10_init 58 = .ok (.newarray .int, 2) := by decide +kernel
theorem dX10_init_60 : decode cX10_init 60 = .ok (.putfield 89, 3) := by decide +kernel
theorem dX10_init_63 : decode cX10_init 63 = .ok (.aload_n 0, 1) := by decide +kernel
theorem dX10_init_64 : decode cX10_init 64 = .ok (.bipush 86, 2) := by decide +kernel
theorem dX10_init_66 : decode cX10_init 66 = .ok (.newarray .int, 2) := by decide +kernel
theorem dX10_init_68 : decode cX10_init 68 = .ok (.putfield 92, 3) := by decide +kernel
theorem dX10_init_71 : decode cX10_init 71 = .ok (.aload_n 0, 1) := by decide +kernel
theorem dX10_init_72 : decode cX10_init 72 = .ok (.bipush 8, 2) := by decide +kernel
theorem dX10_init_74 : decode cX10_init 74 = .ok (.newarray .long, 2) := by decide +kernel
theorem dX10_init_76 : decode cX10_init 76 = .ok (.putfield 95, 3) := by decide +kernel
theorem dX10_init_79 : decode cX10_init 79 = .ok (.aload_n 0, 1) := by decide +kernel
theorem dX10_init_80 : decode cX10_init 80 = .ok (.iconst 2, 1) := by decide +kernel
theorem dX10_init_81 : decode cX10_init 81 = .ok (.newarray .boolean, 2) := by decide +kernel
theorem dX10_init_83 : decode cX10_init 83 = .ok (.putfield 99, 3) := by decide +kernel
theorem dX10_init_86 : decode cX10_init 86 = .ok (.aload_n 0, 1) := by decide +kernel
theorem dX10_init_87 : decode cX10_init 87 = .ok (.bipush 64, 2) := by decide +kernel
theorem dX10_init_89 : decode cX10_init 89 = .ok (.newarray .int, 2) := by decide +kernel
theorem dX10_init_91 : decode cX10_init 91 = .ok (.putfield 103, 3) := by decide +kernel
theorem dX10_init_94 : decode cX10_init 94 = .ok (.aload_n 0, 1) := by decide +kernel
theorem dX10_init_95 : decode cX10_init 95 = .ok (.bipush 72, 2) := by decide +kernel
theorem dX10_init_97 : decode cX10_init 97 = .ok (.newarray .int, 2) := by decide +kernel
theorem dX10_init_99 : decode cX10_init 99 = .ok (.putfield 106, 3) := by decide +kernel
theorem dX10_init_102 : decode cX10_init 102 = .ok (.aload_n 0, 1) := by decide +kernel
theorem dX10_init_103 : decode cX10_init 103 = .ok (.bipush 8, 2) := by decide +kernel
theorem dX10_init_105 : decode cX10_init 105 = .ok (.newarray .int, 2) := by decide +kernel
theorem dX10_init_107 : decode cX10_init 107 = .ok (.putfield 109, 3) := by decide +kernel
theorem dX10_init_110 : decode cX10_init 110 = .ok (.aload_n 0, 1) := by decide +kernel
theorem dX10_init_111 : decode cX10_init 111 = .ok (.bipush 8, 2) := by decide +kernel
theorem dX10_init_113 : decode cX10_init 113 = .ok (.newarray .int, 2) := by decide +kernel
theorem dX10_init_115 : decode cX10_init 115 = .ok (.putfield 112, 3) := by decide +kernel
theorem dX10_init_118 : decode cX10_init 118 = .ok (.aload_n 0, 1) := by decide +kernel
theorem dX10_init_119 : decode cX10_init 119 = .ok (.iconst (-1), 1) := by decide +kernel
theorem dX10_init_120 : decode cX10_init 120 = .ok (.putfield 115, 3) := by decide +kernel
theorem dX10_init_123 : decode cX10_init 123 = .ok (.aload_n 0, 1) := by decide +kernel
theorem dX10_init_124 : decode cX10_init 124 = .ok (.bipush 8, 2) := by decide +kernel
theorem dX10_init_126 : decode cX10_init 126 = .ok (.newarray .int, 2) := by decide +kernel
theorem dX10_init_128 : decode cX10_init 128 = .ok (.putfield 118, 3) := by decide +kernel
theorem dX10_init_131 : decode cX10_init 131 = .ok (.aload_n 0, 1) := by decide +kernel
theorem dX10_init_132 : decode cX10_init 132 = .ok (.bipush 8, 2) := by decide +kernel
theorem dX10_init_134 : decode cX10_init 134 = .ok (.newarray .int, 2) := by decide +kernel
theorem dX10_init_136 : decode cX10_init 136 = .ok (.putfield 121, 3) := by decide +kernel
theorem dX10_init_139 : decode cX10_init 139 = .ok (.aload_n 0, 1) := by decide +kernel
theorem dX10_init_140 : decode cX10_init 140 = .ok (.bipush 8, 2) := by decide +kernel
theorem dX10_init_142 : decode cX10_init 142 = .ok (.newarray .int, 2) := by decide +kernel
theorem dX10_init_144 : decode cX10_init 144 = .ok (.putfield 124, 3) := by decide +kernel
theorem dX10_init_147 : decode cX10_init 147 = .ok (.return_, 1) := by decide +kernel
theorem dX10_copy_0 : decode cX10_copy 0 = .ok (.iconst 0, 1) := by decide +kernel
theorem dX10_copy_1 : decode cX10_copy 1 = .ok (.istore 4, 2) := by decide +kernel
theorem dX10_copy_3 : decode cX10_copy 3 = .ok (.iload 4, 2) := by decide +kernel
theorem dX10_copy_5 : decode cX10_copy 5 = .ok (.bipush 86, 2) := by decide +kernel
theorem dX10_copy_7 : decode cX10_copy 7 = .ok (.if_icmp .ge 21, 3) := by decide +kernel
theorem dX10_copy_10 : decode cX10_copy 10 = .ok (.aload_n 2, 1) := by decide +kernel
theorem dX10_copy_11 : decode cX10_copy 11 = .ok (.iload_n 3, 1) := by decide +kernel
theorem dX10_copy_12 : decode cX10_copy 12 = .ok (.iload 4, 2) := by decide +kernel
theorem dX10_copy_14 : decode cX10_copy 14 = .ok (.iadd, 1) := by decide +kernel
theorem dX10_copy_15 : decode cX10_copy 15 = .ok (.aload_n 0, 1) := by decide +kernel
theorem dX10_copy_16 : decode cX10_copy 16 = .ok (.iload_n 1, 1) := by decide +kernel
theorem dX10_copy_17 : decode cX10_copy 17 = .ok (.iload 4, 2) := by decide +kernel
theorem dX10_copy_19 : decode cX10_copy 19 = .ok (.iadd, 1) := by decide +kernel
theorem dX10_copy_20 : decode cX10_copy 20 = .ok (.iaload, 1) := by decide +kernel
theorem dX10_copy_21 : decode cX10_copy 21 = .ok (.iastore, 1) := by decide +kernel
theorem dX10_copy_22 : decode cX10_copy 22 = .ok (.iinc 4 1, 3) := by decide +kernel
theorem dX10_copy_25 : decode cX10_copy 25 = .ok (.goto (-22), 3) := by decide +kernel
theorem dX10_copy_28 : decode cX10_copy 28 = .ok (.return_, 1) := by decide +kernel
theorem dX10_tells_0 : decode cX10_tells 0 = .ok (.aload_n 0, 1) := by decide +kernel
theorem dX10_tells_1 : decode cX10_tells 1 = .ok (.iconst 1, 1) := by decide +kernel
theorem dX10_tells_2 : decode cX10_tells 2 = .ok (.iaload, 1) := by decide +kernel
theorem dX10_tells_3 : decode cX10_tells 3 = .ok (.istore 4, 2) := by decide +kernel
theorem dX10_tells_5 : decode cX10_tells 5 = .ok (.aload_n 0, 1) := by decide +kernel
theorem dX10_tells_6 : decode cX10_tells 6 = .ok (.iconst 2, 1) := by decide +kernel
theorem dX10_tells_7 : decode cX10_tells 7 = .ok (.iload 4, 2) := by decide +kernel
theorem dX10_tells_9 : decode cX10_tells 9 = .ok (.iadd, 1) := by decide +kernel
theorem dX10_tells_10 : decode cX10_tells 10 = .ok (.iload_n 1, 1) := by decide +kernel
theorem dX10_tells_11 : decode cX10_tells 11 = .ok (.iastore, 1) := by decide +kernel
theorem dX10_tells_12 : decode cX10_tells 12 = .ok (.aload_n 0, 1) := by decide +kernel
theorem dX10_tells_13 : decode cX10_tells 13 = .ok (.bipush 30, 2) := by decide +kernel
theorem dX10_tells_15 : decode cX10_tells 15 = .ok (.iload 4, 2) := by decide +kernel
theorem dX10_tells_17 : decode cX10_tells 17 = .ok (.iadd, 1) := by decide +kernel
theorem dX10_tells_18 : decode cX10_tells 18 = .ok (.iload_n 2, 1) := by decide +kernel
theorem dX10_tells_19 : decode cX10_tells 19 = .ok (.iastore, 1) := by decide +kernel
theorem dX10_tells_20 : decode cX10_tells 20 = .ok (.aload_n 0, 1) := by decide +kernel
theorem dX10_tells_21 : decode cX10_tells 21 = .ok (.bipush 58, 2) := by decide +kernel
theorem dX10_tells_23 : decode cX10_tells 23 = .ok (.iload 4, 2) := by decide +kernel
theorem dX10_tells_25 : decode cX10_tells 25 = .ok (.iadd, 1) := by decide +kernel
theorem dX10_tells_26 : decode cX10_tells 26 = .ok (.iload_n 3, 1) := by decide +kernel
theorem dX10_tells_27 : decode cX10_tells 27 = .ok (.iastore, 1) := by decide +kernel
theorem dX10_tells_28 : decode cX10_tells 28 = .ok (.aload_n 0, 1) := by decide +kernel
theorem dX10_tells_29 : decode cX10_tells 29 = .ok (.iconst 1, 1) := by decide +kernel
theorem dX10_tells_30 : decode cX10_tells 30 = .ok (.dup2, 1) := by decide +kernel
theorem dX10_tells_31 : decode cX10_tells 31 = .ok (.iaload, 1) := by decide +kernel
theorem dX10_tells_32 : decode cX10_tells 32 = .ok (.iconst 1, 1) := by decide +kernel
theorem dX10_tells_33 : decode cX10_tells 33 = .ok (.iadd, 1) := by decide +kernel
theorem dX10_tells_34 : decode cX10_tells 34 = .ok (.iastore, 1) := by decide +kernel
theorem dX10_tells_35 : decode cX10_tells 35 = .ok (.return_, 1) := by decide +kernel
theorem dX10_forgets_0 : decode cX10_forgets 0 = .ok (.iload_n 1, 1) := by decide +kernel
theorem dX10_forgets_1 : decode cX10_forgets 1 = .ok (.istore_n 2, 1) := by decide +kernel
theorem dX10_forgets_2 : decode cX10_forgets 2 = .ok (.iload_n 2, 1) := by decide +kernel
theorem dX10_forgets_3 : decode cX10_forgets 3 = .ok (.iconst 1, 1) := by decide +kernel
theorem dX10_forgets_4 : decode cX10_forgets 4 = .ok (.iadd, 1) := by decide +kernel
theorem dX10_forgets_5 : decode cX10_forgets 5 = .ok (.aload_n 0, 1) := by decide +kernel
theorem dX10_forgets_6 : decode cX10_forgets 6 = .ok (.iconst 1, 1) := by decide +kernel
theorem dX10_forgets_7 : decode cX10_forgets 7 = .ok (.iaload, 1) := by decide +kernel
theorem dX10_forgets_8 : decode cX10_forgets 8 = .ok (.if_icmp .ge 49, 3) := by decide +kernel
theorem dX10_forgets_11 : decode cX10_forgets 11 = .ok (.aload_n 0, 1) := by decide +kernel
theorem dX10_forgets_12 : decode cX10_forgets 12 = .ok (.iconst 2, 1) := by decide +kernel
theorem dX10_forgets_13 : decode cX10_forgets 13 = .ok (.iload_n 2, 1) := by decide +kernel
theorem dX10_forgets_14 : decode cX10_forgets 14 = .ok (.iadd, 1) := by decide +kernel
theorem dX10_forgets_15 : decode cX10_forgets 15 = .ok (.aload_n 0, 1) := by decide +kernel
theorem dX10_forgets_16 : decode cX10_forgets 16 = .ok (.iconst 2, 1) := by decide +kernel
theorem dX10_forgets_17 : decode cX10_forgets 17 = .ok (.iload_n 2, 1) := by decide +kernel
theorem dX10_forgets_18 : decode cX10_forgets 18 = .ok (.iadd, 1) := by decide +kernel
theorem dX10_forgets_19 : decode cX10_forgets 19 = .ok (.iconst 1, 1) := by decide +kernel
theorem dX10_forgets_20 : decode cX10_forgets 20 = .ok (.iadd, 1) := by decide +kernel
theorem dX10_forgets_21 : decode cX10_forgets 21 = .ok (.iaload, 1) := by decide +kernel
theorem dX10_forgets_22 : decode cX10_forgets 22 = .ok (.iastore, 1) := by decide +kernel
theorem dX10_forgets_23 : decode cX10_forgets 23 = .ok (.aload_n 0, 1) := by decide +kernel
theorem dX10_forgets_24 : decode cX10_forgets 24 = .ok (.bipush 30, 2) := by decide +kernel
theorem dX10_forgets_26 : decode cX10_forgets 26 = .ok (.iload_n 2, 1) := by decide +kernel
theorem dX10_forgets_27 : decode cX10_forgets 27 = .ok (.iadd, 1) := by decide +kernel
theorem dX10_forgets_28 : decode cX10_forgets 28 = .ok (.aload_n 0, 1) := by decide +kernel
theorem dX10_forgets_29 : decode cX10_forgets 29 = .ok (.bipush 30, 2) := by decide +kernel
theorem dX10_forgets_31 : decode cX10_forgets 31 = .ok (.iload_n 2, 1) := by decide +kernel
theorem dX10_forgets_32 : decode cX10_forgets 32 = .ok (.iadd, 1) := by decide +kernel
theorem dX10_forgets_33 : decode cX10_forgets 33 = .ok (.iconst 1, 1) := by decide +kernel
theorem dX10_forgets_34 : decode cX10_forgets 34 = .ok (.iadd, 1) := by decide +kernel
theorem dX10_forgets_35 : decode cX10_forgets 35 = .ok (.iaload, 1) := by decide +kernel
theorem dX10_forgets_36 : decode cX10_forgets 36 = .ok (.iastore, 1) := by decide +kernel
theorem dX10_forgets_37 : decode cX10_forgets 37 = .ok (.aload_n 0, 1) := by decide +kernel
theorem dX10_forgets_38 : decode cX10_forgets 38 = .ok (.bipush 58, 2) := by decide +kernel
theorem dX10_forgets_40 : decode cX10_forgets 40 = .ok (.iload_n 2, 1) := by decide +kernel
theorem dX10_forgets_41 : decode cX10_forgets 41 = .ok (.iadd, 1) := by decide +kernel
theorem dX10_forgets_42 : decode cX10_forgets 42 = .ok (.aload_n 0, 1) := by decide +kernel
theorem dX10_forgets_43 : decode cX10_forgets 43 = .ok (.bipush 58, 2) := by decide +kernel
theorem dX10_forgets_45 : decode cX10_forgets 45 = .ok (.iload_n 2, 1) := by decide +kernel
theorem dX10_forgets_46 : decode cX10_forgets 46 = .ok (.iadd, 1) := by decide +kernel
theorem dX10_forgets_47 : decode cX10_forgets 47 = .ok (.iconst 1, 1) := by decide +kernel
theorem dX10_forgets_48 : decode cX10_forgets 48 = .ok (.iadd, 1) := by decide +kernel
theorem dX10_forgets_49 : decode cX10_forgets 49 = .ok (.iaload, 1) := by decide +kernel
theorem dX10_forgets_50 : decode cX10_forgets 50 = .ok (.iastore, 1) := by decide +kernel
theorem dX10_forgets_51 : decode cX10_forgets 51 = .ok (.iinc 2 1, 3) := by decide +kernel
theorem dX10_forgets_54 : decode cX10_forgets 54 = .ok (.goto (-52), 3) := by decide +kernel
theorem dX10_forgets_57 : decode cX10_forgets 57 = .ok (.aload_n 0, 1) := by decide +kernel
theorem dX10_forgets_58 : decode cX10_forgets 58 = .ok (.iconst 1, 1) := by decide +kernel
theorem dX10_forgets_59 : decode cX10_forgets 59 = .ok (.dup2, 1) := by decide +kernel
theorem dX10_forgets_60 : decode cX10_forgets 60 = .ok (.iaload, 1) := by decide +kernel
theorem dX10_forgets_61 : decode cX10_forgets 61 = .ok (.iconst 1, 1) := by decide +kernel
theorem dX10_forgets_62 : decode cX10_forgets 62 = .ok (.isub, 1) := by decide +kernel
theorem dX10_forgets_63 : decode cX10_forgets 63 = .ok (.iastore, 1) := by decide +kernel
theorem dX10_forgets_64 : decode cX10_forgets 64 = .ok (.return_, 1) := by decide +kernel
theorem dX10_factOf_0 : decode cX10_factOf 0 = .ok (.iconst 0, 1) := by decide +kernel
theorem dX10_factOf_1 : decode cX10_factOf 1 = .ok (.istore_n 3, 1) := by decide +kernel
theorem dX10_factOf_2 : decode cX10_factOf 2 = .ok (.iload_n 3, 1) := by decide +kernel
theorem dX10_factOf_3 : decode cX10_factOf 3 = .ok (.aload_n 0, 1) := by decide +kernel
theorem dX10_factOf_4 : decode cX10_factOf 4 = .ok (.iconst 1, 1) := by decide +kernel
theorem dX10_factOf_5 : decode cX10_factOf 5 = .ok (.iaload, 1) := by decide +kernel
theorem dX10_factOf_6 : decode cX10_factOf 6 = .ok (.if_icmp .ge 51, 3) := by decide +kernel
theorem dX10_factOf_9 : decode cX10_factOf 9 = .ok (.aload_n 0, 1) := by decide +kernel
theorem dX10_factOf_10 : decode cX10_factOf 10 = .ok (.bipush 30, 2) := by decide +kernel
theorem dX10_factOf_12 : decode cX10_factOf 12 = .ok (.iload_n 3, 1) := by decide +kernel
theorem dX10_factOf_13 : decode cX10_factOf 13 = .ok (.iadd, 1) := by decide +kernel
theorem dX10_factOf_14 : decode cX10_factOf 14 = .ok (.iaload, 1) := by decide +kernel
theorem dX10_factOf_15 : decode cX10_factOf 15 = .ok (.iload_n 1, 1) := by decide +kernel
theorem dX10_factOf_16 : decode cX10_factOf 16 = .ok (.if_icmp .ne 13, 3) := by decide +kernel
theorem dX10_factOf_19 : decode cX10_factOf 19 = .ok (.aload_n 0, 1) := by decide +kernel
theorem dX10_factOf_20 : decode cX10_factOf 20 = .ok (.bipush 58, 2) := by decide +kernel
theorem dX10_factOf_22 : decode cX10_factOf 22 = .ok (.iload_n 3, 1) := by decide +kernel
theorem dX10_factOf_23 : decode cX10_factOf 23 = .ok (.iadd, 1) := by decide +kernel
theorem dX10_factOf_24 : decode cX10_factOf 24 = .ok (.iaload, 1) := by decide +kernel
theorem dX10_factOf_25 : decode cX10_factOf 25 = .ok (.iload_n 2, 1) := by decide +kernel
theorem dX10_factOf_26 : decode cX10_factOf 26 = .ok (.if_icmp .eq 23, 3) := by decide +kernel
theorem dX10_factOf_29 : decode cX10_factOf 29 = .ok (.aload_n 0, 1) := by decide +kernel
theorem dX10_factOf_30 : decode cX10_factOf 30 = .ok (.bipush 30, 2) := by decide +kernel
theorem dX10_factOf_32 : decode cX10_factOf 32 = .ok (.iload_n 3, 1) := by decide +kernel
theorem dX10_factOf_33 : decode cX10_factOf 33 = .ok (.iadd, 1) := by decide +kernel
theorem dX10_factOf_34 : decode cX10_factOf 34 = .ok (.iaload, 1) := by decide +kernel
theorem dX10_factOf_35 : decode cX10_factOf 35 = .ok (.iload_n 2, 1) := by decide +kernel
theorem dX10_factOf_36 : decode cX10_factOf 36 = .ok (.if_icmp .ne 15, 3) := by decide +kernel
theorem dX10_factOf_39 : decode cX10_factOf 39 = .ok (.aload_n 0, 1) := by decide +kernel
theorem dX10_factOf_40 : decode cX10_factOf 40 = .ok (.bipush 58, 2) := by decide +kernel
theorem dX10_factOf_42 : decode cX10_factOf 42 = .ok (.iload_n 3, 1) := by decide +kernel
theorem dX10_factOf_43 : decode cX10_factOf 43 = .ok (.iadd, 1) := by decide +kernel
theorem dX10_factOf_44 : decode cX10_factOf 44 = .ok (.iaload, 1) := by decide +kernel
theorem dX10_factOf_45 : decode cX10_factOf 45 = .ok (.iload_n 1, 1) := by decide +kernel
theorem dX10_factOf_46 : decode cX10_factOf 46 = .ok (.if_icmp .ne 5, 3) := by decide +kernel
theorem dX10_factOf_49 : decode cX10_factOf 49 = .ok (.iload_n 3, 1) := by decide +kernel
theorem dX10_factOf_50 : decode cX10_factOf 50 = .ok (.ireturn, 1) := by decide +kernel
theorem dX10_factOf_51 : decode cX10_factOf 51 = .ok (.iinc 3 1, 3) := by decide +kernel
theorem dX10_factOf_54 : decode cX10_factOf 54 = .ok (.goto (-52), 3) := by decide +kernel
theorem dX10_factOf_57 : decode cX10_factOf 57 = .ok (.iconst (-1), 1) := by decide +kernel
theorem dX10_factOf_58 : decode cX10_factOf 58 = .ok (.ireturn, 1) := by decide +kernel
theorem dX10_named_0 : decode cX10_named 0 = .ok (.iconst 0, 1) := by decide +kernel
theorem dX10_named_1 : decode cX10_named 1 = .ok (.istore_n 1, 1) := by decide +kernel
theorem dX10_named_2 : decode cX10_named 2 = .ok (.iload_n 1, 1) := by decide +kernel
theorem dX10_named_3 : decode cX10_named 3 = .ok (.aload_n 0, 1) := by decide +kernel
theorem dX10_named_4 : decode cX10_named 4 = .ok (.getfield 77, 3) := by decide +kernel
theorem dX10_named_7 : decode cX10_named 7 = .ok (.iconst 0, 1) := by decide +kernel
theorem dX10_named_8 : decode cX10_named 8 = .ok (.iaload, 1) := by decide +kernel
theorem dX10_named_9 : decode cX10_named 9 = .ok (.if_icmp .ge 25, 3) := by decide +kernel
theorem dX10_named_12 : decode cX10_named 12 = .ok (.aload_n 0, 1) := by decide +kernel
theorem dX10_named_13 : decode cX10_named 13 = .ok (.getfield 95, 3) := by decide +kernel
theorem dX10_named_16 : decode cX10_named 16 = .ok (.iload_n 1, 1) := by decide +kernel
theorem dX10_named_17 : decode cX10_named 17 = .ok (.laload, 1) := by decide +kernel
theorem dX10_named_18 : decode cX10_named 18 = .ok (.aload_n 0, 1) := by decide +kernel
theorem dX10_named_19 : decode cX10_named 19 = .ok (.getfield 34, 3) := by decide +kernel
theorem dX10_named_22 : decode cX10_named 22 = .ok (.lcmp, 1) := by decide +kernel
theorem dX10_named_23 : decode cX10_named 23 = .ok (.ifCond .ne 5, 3) := by decide +kernel
theorem dX10_named_26 : decode cX10_named 26 = .ok (.iload_n 1, 1) := by decide +kernel
theorem dX10_named_27 : decode cX10_named 27 = .ok (.ireturn, 1) := by decide +kernel
theorem dX10_named_28 : decode cX10_named 28 = .ok (.iinc 1 1, 3) := by decide +kernel
theorem dX10_named_31 : decode cX10_named 31 = .ok (.goto (-29), 3) := by decide +kernel
theorem dX10_named_34 : decode cX10_named 34 = .ok (.iconst (-1), 1) := by decide +kernel
theorem dX10_named_35 : decode cX10_named 35 = .ok (.ireturn, 1) := by decide +kernel
theorem dX10_readItem_0 : decode cX10_readItem 0 = .ok (.aload_n 0, 1) := by decide +kernel
theorem dX10_readItem_1 : decode cX10_readItem 1 = .ok (.getfield 77, 3) := by decide +kernel
theorem dX10_readItem_4 : decode cX10_readItem 4 = .ok (.iconst 0, 1) := by decide +kernel
theorem dX10_readItem_5 : decode cX10_readItem 5 = .ok (.iaload, 1) := by decide +kernel
theorem dX10_readItem_6 : decode cX10_readItem 6 = .ok (.bipush 8, 2) := by decide +kernel
theorem dX10_readItem_8 : decode cX10_readItem 8 = .ok (.if_icmp .ne 9, 3) := by decide +kernel
theorem dX10_readItem_11 : decode cX10_readItem 11 = .ok (.aload_n 0, 1) := by decide +kernel
theorem dX10_readItem_12 : decode cX10_readItem 12 = .ok (.iconst 3, 1) := by decide +kernel
theorem dX10_readItem_13 : decode cX10_readItem 13 = .ok (.invokevirtual 127, 3) := by decide +kernel
theorem dX10_readItem_16 : decode cX10_readItem 16 = .ok (.ireturn, 1) := by decide +kernel
theorem dX10_readItem_17 : decode cX10_readItem 17 = .ok (.aload_n 0, 1) := by decide +kernel
theorem dX10_readItem_18 : decode cX10_readItem 18 = .ok (.invokevirtual 130, 3) := by decide +kernel
theorem dX10_readItem_21 : decode cX10_readItem 21 = .ok (.aload_n 0, 1) := by decide +kernel
theorem dX10_readItem_22 : decode cX10_readItem 22 = .ok (.invokevirtual 133, 3) := by decide +kernel
theorem dX10_readItem_25 : decode cX10_readItem 25 = .ok (.ifCond .ne 9, 3) := by decide +kernel
theorem dX10_readItem_28 : decode cX10_readItem 28 = .ok (.aload_n 0, 1) := by decide +kernel
theorem dX10_readItem_29 : decode cX10_readItem 29 = .ok (.iconst 1, 1) := by decide +kernel
theorem dX10_readItem_30 : decode cX10_readItem 30 = .ok (.invokevirtual 127, 3) := by decide +kernel
theorem dX10_readItem_33 : decode cX10_readItem 33 = .ok (.ireturn, 1) := by decide +kernel
theorem dX10_readItem_34 : decode cX10_readItem 34 = .ok (.aload_n 0, 1) := by decide +kernel
theorem dX10_readItem_35 : decode cX10_readItem 35 = .ok (.invokevirtual 136, 3) := by decide +kernel
theorem dX10_readItem_38 : decode cX10_readItem 38 = .ok (.iconst (-1), 1) := by decide +kernel
theorem dX10_readItem_39 : decode cX10_readItem 39 = .ok (.if_icmp .eq 9, 3) := by decide +kernel
theorem dX10_readItem_42 : decode cX10_readItem 42 = .ok (.aload_n 0, 1) := by decide +kernel
theorem dX10_readItem_43 : decode cX10_readItem 43 = .ok (.iconst 2, 1) := by decide +kernel
theorem dX10_readItem_44 : decode cX10_readItem 44 = .ok (.invokevirtual 127, 3) := by decide +kernel
theorem dX10_readItem_47 : decode cX10_readItem 47 = .ok (.ireturn, 1) := by decide +kernel
theorem dX10_readItem_48 : decode cX10_readItem 48 = .ok (.aload_n 0, 1) := by decide +kernel
theorem dX10_readItem_49 : decode cX10_readItem 49 = .ok (.getfield 95, 3) := by decide +kernel
theorem dX10_readItem_52 : decode cX10_readItem 52 = .ok (.aload_n 0, 1) := by decide +kernel
theorem dX10_readItem_53 : decode cX10_readItem 53 = .ok (.getfield 77, 3) := by decide +kernel
theorem dX10_readItem_56 : decode cX10_readItem 56 = .ok (.iconst 0, 1) := by decide +kernel
theorem dX10_readItem_57 : decode cX10_readItem 57 = .ok (.iaload, 1) := by decide +kernel
theorem dX10_readItem_58 : decode cX10_readItem 58 = .ok (.aload_n 0, 1) := by decide +kernel
theorem dX10_readItem_59 : decode cX10_readItem 59 = .ok (.getfield 34, 3) := by decide +kernel
theorem dX10_readItem_62 : decode cX10_readItem 62 = .ok (.lastore, 1) := by decide +kernel
theorem dX10_readItem_63 : decode cX10_readItem 63 = .ok (.aload_n 0, 1) := by decide +kernel
theorem dX10_readItem_64 : decode cX10_readItem 64 = .ok (.getfield 77, 3) := by decide +kernel
theorem dX10_readItem_67 : decode cX10_readItem 67 = .ok (.iconst 0, 1) := by decide +kernel
theorem dX10_readItem_68 : decode cX10_readItem 68 = .ok (.dup2, 1) := by decide +kernel
theorem dX10_readItem_69 : decode cX10_readItem 69 = .ok (.iaload, 1) := by decide +kernel
theorem dX10_readItem_70 : decode cX10_readItem 70 = .ok (.iconst 1, 1) := by decide +kernel
theorem dX10_readItem_71 : decode cX10_readItem 71 = .ok (.iadd, 1) := by decide +kernel
theorem dX10_readItem_72 : decode cX10_readItem 72 = .ok (.iastore, 1) := by decide +kernel
theorem dX10_readItem_73 : decode cX10_readItem 73 = .ok (.aload_n 0, 1) := by decide +kernel
theorem dX10_readItem_74 : decode cX10_readItem 74 = .ok (.invokevirtual 130, 3) := by decide +kernel
theorem dX10_readItem_77 : decode cX10_readItem 77 = .ok (.aload_n 0, 1) := by decide +kernel
theorem dX10_readItem_78 : decode cX10_readItem 78 = .ok (.invokevirtual 139, 3) := by decide +kernel
theorem dX10_readItem_81 : decode cX10_readItem 81 = .ok (.ireturn, 1) := by decide +kernel
theorem dX10_readFact_0 : decode cX10_readFact 0 = .ok (.aload_n 0, 1) := by decide +kernel
theorem dX10_readFact_1 : decode cX10_readFact 1 = .ok (.getfield 24, 3) := by decide +kernel
theorem dX10_readFact_4 : decode cX10_readFact 4 = .ok (.istore_n 1, 1) := by decide +kernel
theorem dX10_readFact_5 : decode cX10_readFact 5 = .ok (.aload_n 0, 1) := by decide +kernel
theorem dX10_readFact_6 : decode cX10_readFact 6 = .ok (.invokevirtual 136, 3) := by decide +kernel
theorem dX10_readFact_9 : decode cX10_readFact 9 = .ok (.istore_n 2, 1) := by decide +kernel
theorem dX10_readFact_10 : decode cX10_readFact 10 = .ok (.iload_n 2, 1) := by decide +kernel
theorem dX10_readFact_11 : decode cX10_readFact 11 = .ok (.iconst (-1), 1) := by decide +kernel
theorem dX10_readFact_12 : decode cX10_readFact 12 = .ok (.if_icmp .ne 9, 3) := by decide +kernel
theorem dX10_readFact_15 : decode cX10_readFact 15 = .ok (.aload_n 0, 1) := by decide +kernel
theorem dX10_readFact_16 : decode cX10_readFact 16 = .ok (.iconst 2, 1) := by decide +kernel
theorem dX10_readFact_17 : decode cX10_readFact 17 = .ok (.invokevirtual 127, 3) := by decide +kernel
theorem dX10_readFact_20 : decode cX10_readFact 20 = .ok (.ireturn, 1) := by decide +kernel
theorem dX10_readFact_21 : decode cX10_readFact 21 = .ok (.aload_n 0, 1) := by decide +kernel
theorem dX10_readFact_22 : decode cX10_readFact 22 = .ok (.invokevirtual 130, 3) := by decide +kernel
theorem dX10_readFact_25 : decode cX10_readFact 25 = .ok (.aload_n 0, 1) := by decide +kernel
theorem dX10_readFact_26 : decode cX10_readFact 26 = .ok (.invokevirtual 54, 3) := by decide +kernel
theorem dX10_readFact_29 : decode cX10_readFact 29 = .ok (.istore_n 3, 1) := by decide +kernel
theorem dX10_readFact_30 : decode cX10_readFact 30 = .ok (.iload_n 3, 1) := by decide +kernel
theorem dX10_readFact_31 : decode cX10_readFact 31 = .ok (.iconst (-1), 1) := by decide +kernel
theorem dX10_readFact_32 : decode cX10_readFact 32 = .ok (.if_icmp .ne 9, 3) := by decide +kernel
theorem dX10_readFact_35 : decode cX10_readFact 35 = .ok (.aload_n 0, 1) := by decide +kernel
theorem dX10_readFact_36 : decode cX10_readFact 36 = .ok (.iconst 1, 1) := by decide +kernel
theorem dX10_readFact_37 : decode cX10_readFact 37 = .ok (.invokevirtual 127, 3) := by decide +kernel
theorem dX10_readFact_40 : decode cX10_readFact 40 = .ok (.ireturn, 1) := by decide +kernel
theorem dX10_readFact_41 : decode cX10_readFact 41 = .ok (.aload_n 0, 1) := by decide +kernel
theorem dX10_readFact_42 : decode cX10_readFact 42 = .ok (.invokevirtual 130, 3) := by decide +kernel
theorem dX10_readFact_45 : decode cX10_readFact 45 = .ok (.aload_n 0, 1) := by decide +kernel
theorem dX10_readFact_46 : decode cX10_readFact 46 = .ok (.invokevirtual 133, 3) := by decide +kernel
theorem dX10_readFact_49 : decode cX10_readFact 49 = .ok (.ifCond .ne 9, 3) := by decide +kernel
theorem dX10_readFact_52 : decode cX10_readFact 52 = .ok (.aload_n 0, 1) := by decide +kernel
theorem dX10_readFact_53 : decode cX10_readFact 53 = .ok (.iconst 1, 1) := by decide +kernel
theorem dX10_readFact_54 : decode cX10_readFact 54 = .ok (.invokevirtual 127, 3) := by decide +kernel
theorem dX10_readFact_57 : decode cX10_readFact 57 = .ok (.ireturn, 1) := by decide +kernel
theorem dX10_readFact_58 : decode cX10_readFact 58 = .ok (.aload_n 0, 1) := by decide +kernel
theorem dX10_readFact_59 : decode cX10_readFact 59 = .ok (.invokevirtual 136, 3) := by decide +kernel
theorem dX10_readFact_62 : decode cX10_readFact 62 = .ok (.istore 4, 2) := by decide +kernel
theorem dX10_readFact_64 : decode cX10_readFact 64 = .ok (.iload 4, 2) := by decide +kernel
theorem dX10_readFact_66 : decode cX10_readFact 66 = .ok (.iconst (-1), 1) := by decide +kernel
theorem dX10_readFact_67 : decode cX10_readFact 67 = .ok (.if_icmp .eq 23, 3) := by decide +kernel
theorem dX10_readFact_70 : decode cX10_readFact 70 = .ok (.iload 4, 2) := by decide +kernel
theorem dX10_readFact_72 : decode cX10_readFact 72 = .ok (.iload_n 2, 1) := by decide +kernel
theorem dX10_readFact_73 : decode cX10_readFact 73 = .ok (.if_icmp .eq 17, 3) := by decide +kernel
theorem dX10_readFact_76 : decode cX10_readFact 76 = .ok (.aload_n 0, 1) := by decide +kernel
theorem dX10_readFact_77 : decode cX10_readFact 77 = .ok (.getfield 77, 3) := by decide +kernel
theorem dX10_readFact_80 : decode cX10_readFact 80 = .ok (.iload_n 2, 1) := by decide +kernel
theorem dX10_readFact_81 : decode cX10_readFact 81 = .ok (.iload 4, 2) := by decide +kernel
theorem dX10_readFact_83 : decode cX10_readFact 83 = .ok (.invokestatic 142, 3) := by decide +kernel
theorem dX10_readFact_86 : decode cX10_readFact 86 = .ok (.iconst (-1), 1) := by decide +kernel
theorem dX10_readFact_87 : decode cX10_readFact 87 = .ok (.if_icmp .eq 9, 3) := by decide +kernel
theorem dX10_readFact_90 : decode cX10_readFact 90 = .ok (.aload_n 0, 1) := by decide +kernel
theorem dX10_readFact_91 : decode cX10_readFact 91 = .ok (.iconst 2, 1) := by decide +kernel
theorem dX10_readFact_92 : decode cX10_readFact 92 = .ok (.invokevirtual 127, 3) := by decide +kernel
theorem dX10_readFact_95 : decode cX10_readFact 95 = .ok (.ireturn, 1) := by decide +kernel
theorem dX10_readFact_96 : decode cX10_readFact 96 = .ok (.aload_n 0, 1) := by decide +kernel
theorem dX10_readFact_97 : decode cX10_readFact 97 = .ok (.invokevirtual 130, 3) := by decide +kernel
theorem dX10_readFact_100 : decode cX10_readFact 100 = .ok (.aload_n 0, 1) := by decide +kernel
theorem dX10_readFact_101 : decode cX10_readFact 101 = .ok (.getfield 27, 3) := by decide +kernel
theorem dX10_readFact_104 : decode cX10_readFact 104 = .ok (.iconst 3, 1) := by decide +kernel
theorem dX10_readFact_105 : decode cX10_readFact 105 = .ok (.if_icmp .eq 9, 3) := by decide +kernel
theorem dX10_readFact_108 : decode cX10_readFact 108 = .ok (.aload_n 0, 1) := by decide +kernel
theorem dX10_readFact_109 : decode cX10_readFact 109 = .ok (.iconst 1, 1) := by decide +kernel
theorem dX10_readFact_110 : decode cX10_readFact 110 = .ok (.invokevirtual 127, 3) := by decide +kernel
theorem dX10_readFact_113 : decode cX10_readFact 113 = .ok (.ireturn, 1) := by decide +kernel
theorem dX10_readFact_114 : decode cX10_readFact 114 = .ok (.aload_n 0, 1) := by decide +kernel
theorem dX10_readFact_115 : decode cX10_readFact 115 = .ok (.aload_n 0, 1) := by decide +kernel
theorem dX10_readFact_116 : decode cX10_readFact 116 = .ok (.getfield 77, 3) := by decide +kernel
theorem dX10_readFact_119 : decode cX10_readFact 119 = .ok (.iload_n 3, 1) := by decide +kernel
theorem dX10_readFact_120 : decode cX10_readFact 120 = .ok (.iload_n 2, 1) := by decide +kernel
theorem dX10_readFact_121 : decode cX10_readFact 121 = .ok (.iload 4, 2) := by decide +kernel
theorem dX10_readFact_123 : decode cX10_readFact 123 = .ok (.invokevirtual 146, 3) := by decide +kernel
theorem dX10_readFact_126 : decode cX10_readFact 126 = .ok (.ifCond .eq 14, 3) := by decide +kernel
theorem dX10_readFact_129 : decode cX10_readFact 129 = .ok (.aload_n 0, 1) := by decide +kernel
theorem dX10_readFact_130 : decode cX10_readFact 130 = .ok (.invokevirtual 150, 3) := by decide +kernel
theorem dX10_readFact_133 : decode cX10_readFact 133 = .ok (.aload_n 0, 1) := by decide +kernel
theorem dX10_readFact_134 : decode cX10_readFact 134 = .ok (.iconst 4, 1) := by decide +kernel
theorem dX10_readFact_135 : decode cX10_readFact 135 = .ok (.iload_n 1, 1) := by decide +kernel
theorem dX10_readFact_136 : decode cX10_readFact 136 = .ok (.invokevirtual 64, 3) := by decide +kernel
theorem dX10_readFact_139 : decode cX10_readFact 139 = .ok (.ireturn, 1) := by decide +kernel
theorem dX10_readFact_140 : decode cX10_readFact 140 = .ok (.aload_n 0, 1) := by decide +kernel
theorem dX10_readFact_141 : decode cX10_readFact 141 = .ok (.getfield 77, 3) := by decide +kernel
theorem dX10_readFact_144 : decode cX10_readFact 144 = .ok (.iload_n 3, 1) := by decide +kernel
theorem dX10_readFact_145 : decode cX10_readFact 145 = .ok (.iload_n 2, 1) := by decide +kernel
theorem dX10_readFact_146 : decode cX10_readFact 146 = .ok (.iload 4, 2) := by decide +kernel
theorem dX10_readFact_148 : decode cX10_readFact 148 = .ok (.invokestatic 153, 3) := by decide +kernel
theorem dX10_readFact_151 : decode cX10_readFact 151 = .ok (.aload_n 0, 1) := by decide +kernel
theorem dX10_readFact_152 : decode cX10_readFact 152 = .ok (.invokevirtual 139, 3) := by decide +kernel
theorem dX10_readFact_155 : decode cX10_readFact 155 = .ok (.ireturn, 1) := by decide +kernel
theorem dX10_readEnd_0 : decode cX10_readEnd 0 = .ok (.aload_n 0, 1) := by decide +kernel
theorem dX10_readEnd_1 : decode cX10_readEnd 1 = .ok (.getfield 27, 3) := by decide +kernel
theorem dX10_readEnd_4 : decode cX10_readEnd 4 = .ok (.iconst 3, 1) := by decide +kernel
theorem dX10_readEnd_5 : decode cX10_readEnd 5 = .ok (.if_icmp .eq 9, 3) := by decide +kernel
theorem dX10_readEnd_8 : decode cX10_readEnd 8 = .ok (.aload_n 0, 1) := by decide +kernel
theorem dX10_readEnd_9 : decode cX10_readEnd 9 = .ok (.iconst 1, 1) := by decide +kernel
theorem dX10_readEnd_10 : decode cX10_readEnd 10 = .ok (.invokevirtual 127, 3) := by decide +kernel
theorem dX10_readEnd_13 : decode cX10_readEnd 13 = .ok (.ireturn, 1) := by decide +kernel
theorem dX10_readEnd_14 : decode cX10_readEnd 14 = .ok (.aload_n 0, 1) := by decide +kernel
theorem dX10_readEnd_15 : decode cX10_readEnd 15 = .ok (.invokevirtual 130, 3) := by decide +kernel
theorem dX10_readEnd_18 : decode cX10_readEnd 18 = .ok (.iconst 1, 1) := by decide +kernel
theorem dX10_readEnd_19 : decode cX10_readEnd 19 = .ok (.ireturn, 1) := by decide +kernel
theorem dX10_notes_0 : decode cX10_notes 0 = .ok (.aload_n 0, 1) := by decide +kernel
theorem dX10_notes_1 : decode cX10_notes 1 = .ok (.iconst 0, 1) := by decide +kernel
theorem dX10_notes_2 : decode cX10_notes 2 = .ok (.putfield 1, 3) := by decide +kernel
theorem dX10_notes_5 : decode cX10_notes 5 = .ok (.aload_n 0, 1) := by decide +kernel
theorem dX10_notes_6 : decode cX10_notes 6 = .ok (.aload_n 0, 1) := by decide +kernel
theorem dX10_notes_7 : decode cX10_notes 7 = .ok (.getfield 11, 3) := by decide +kernel
theorem dX10_notes_10 : decode cX10_notes 10 = .ok (.putfield 18, 3) := by decide +kernel
theorem dX10_notes_13 : decode cX10_notes 13 = .ok (.aload_n 0, 1) := by decide +kernel
theorem dX10_notes_14 : decode cX10_notes 14 = .ok (.iconst 0, 1) := by decide +kernel
theorem dX10_notes_15 : decode cX10_notes 15 = .ok (.putfield 11, 3) := by decide +kernel
theorem dX10_notes_18 : decode cX10_notes 18 = .ok (.aload_n 0, 1) := by decide +kernel
theorem dX10_notes_19 : decode cX10_notes 19 = .ok (.iconst 0, 1) := by decide +kernel
theorem dX10_notes_20 : decode cX10_notes 20 = .ok (.putfield 58, 3) := by decide +kernel
theorem dX10_notes_23 : decode cX10_notes 23 = .ok (.aload_n 0, 1) := by decide +kernel
theorem dX10_notes_24 : decode cX10_notes 24 = .ok (.iconst 0, 1) := by decide +kernel
theorem dX10_notes_25 : decode cX10_notes 25 = .ok (.putfield 21, 3) := by decide +kernel
theorem dX10_notes_28 : decode cX10_notes 28 = .ok (.iconst 0, 1) := by decide +kernel
theorem dX10_notes_29 : decode cX10_notes 29 = .ok (.istore_n 1, 1) := by decide +kernel
theorem dX10_notes_30 : decode cX10_notes 30 = .ok (.iconst 0, 1) := by decide +kernel
theorem dX10_notes_31 : decode cX10_notes 31 = .ok (.istore_n 2, 1) := by decide +kernel
theorem dX10_notes_32 : decode cX10_notes 32 = .ok (.iload_n 2, 1) := by decide +kernel
theorem dX10_notes_33 : decode cX10_notes 33 = .ok (.bipush 86, 2) := by decide +kernel
theorem dX10_notes_35 : decode cX10_notes 35 = .ok (.if_icmp .ge 16, 3) := by decide +kernel
theorem dX10_notes_38 : decode cX10_notes 38 = .ok (.aload_n 0, 1) := by decide +kernel
theorem dX10_notes_39 : decode cX10_notes 39 = .ok (.getfield 77, 3) := by decide +kernel
theorem dX10_notes_42 : decode cX10_notes 42 = .ok (.iload_n 2, 1) := by decide +kernel
theorem dX10_notes_43 : decode cX10_notes 43 = .ok (.iconst 0, 1) := by decide +kernel
theorem dX10_notes_44 : decode cX10_notes 44 = .ok (.iastore, 1) := by decide +kernel
theorem dX10_notes_45 : decode cX10_notes 45 = .ok (.iinc 2 1, 3) := by decide +kernel
theorem dX10_notes_48 : decode cX10_notes 48 = .ok (.goto (-16), 3) := by decide +kernel
theorem dX10_notes_51 : decode cX10_notes 51 = .ok (.aload_n 0, 1) := by decide +kernel
theorem dX10_notes_52 : decode cX10_notes 52 = .ok (.invokevirtual 130, 3) := by decide +kernel
theorem dX10_notes_55 : decode cX10_notes 55 = .ok (.aload_n 0, 1) := by decide +kernel
theorem dX10_notes_56 : decode cX10_notes 56 = .ok (.getfield 27, 3) := by decide +kernel
theorem dX10_notes_59 : decode cX10_notes 59 = .ok (.ifCond .eq 54, 3) := by decide +kernel
theorem dX10_notes_62 : decode cX10_notes 62 = .ok (.aload_n 0, 1) := by decide +kernel
theorem dX10_notes_63 : decode cX10_notes 63 = .ok (.invokevirtual 50, 3) := by decide +kernel
theorem dX10_notes_66 : decode cX10_notes 66 = .ok (.ifCond .eq 10, 3) := by decide +kernel
theorem dX10_notes_69 : decode cX10_notes 69 = .ok (.aload_n 0, 1) := by decide +kernel
theorem dX10_notes_70 : decode cX10_notes 70 = .ok (.invokevirtual 157, 3) := by decide +kernel
theorem dX10_notes_73 : decode cX10_notes 73 = .ok (.goto 22, 3) := by decide +kernel
theorem dX10_notes_76 : decode cX10_notes 76 = .ok (.aload_n 0, 1) := by decide +kernel
theorem dX10_notes_77 : decode cX10_notes 77 = .ok (.invokevirtual 133, 3) := by decide +kernel
theorem dX10_notes_80 : decode cX10_notes 80 = .ok (.ifCond .eq 10, 3) := by decide +kernel
theorem dX10_notes_83 : decode cX10_notes 83 = .ok (.aload_n 0, 1) := by decide +kernel
theorem dX10_notes_84 : decode cX10_notes 84 = .ok (.invokevirtual 160, 3) := by decide +kernel
theorem dX10_notes_87 : decode cX10_notes 87 = .ok (.goto 8, 3) := by decide +kernel
theorem dX10_notes_90 : decode cX10_notes 90 = .ok (.aload_n 0, 1) := by decide +kernel
theorem dX10_notes_91 : decode cX10_notes 91 = .ok (.iconst 1, 1) := by decide +kernel
theorem dX10_notes_92 : decode cX10_notes 92 = .ok (.invokevirtual 127, 3) := by decide +kernel
theorem dX10_notes_95 : decode cX10_notes 95 = .ok (.istore_n 2, 1) := by decide +kernel
theorem dX10_notes_96 : decode cX10_notes 96 = .ok (.iload_n 2, 1) := by decide +kernel
theorem dX10_notes_97 : decode cX10_notes 97 = .ok (.ifCond .ne 10, 3) := by decide +kernel
theorem dX10_notes_100 : decode cX10_notes 100 = .ok (.iconst (-1), 1) := by decide +kernel
theorem dX10_notes_101 : decode cX10_notes 101 = .ok (.aload_n 0, 1) := by decide +kernel
theorem dX10_notes_102 : decode cX10_notes 102 = .ok (.getfield 61, 3) := by decide +kernel
theorem dX10_notes_105 : decode cX10_notes 105 = .ok (.isub, 1) := by decide +kernel
theorem dX10_notes_106 : decode cX10_notes 106 = .ok (.ireturn, 1) := by decide +kernel
theorem dX10_notes_107 : decode cX10_notes 107 = .ok (.iinc 1 1, 3) := by decide +kernel
theorem dX10_notes_110 : decode cX10_notes 110 = .ok (.goto (-55), 3) := by decide +kernel
theorem dX10_notes_113 : decode cX10_notes 113 = .ok (.aload_n 0, 1) := by decide +kernel
theorem dX10_notes_114 : decode cX10_notes 114 = .ok (.getfield 77, 3) := by decide +kernel
theorem dX10_notes_117 : decode cX10_notes 117 = .ok (.iconst 0, 1) := by decide +kernel
theorem dX10_notes_118 : decode cX10_notes 118 = .ok (.aload_n 0, 1) := by decide +kernel
theorem dX10_notes_119 : decode cX10_notes 119 = .ok (.getfield 74, 3) := by decide +kernel
theorem dX10_notes_122 : decode cX10_notes 122 = .ok (.iconst 0, 1) := by decide +kernel
theorem dX10_notes_123 : decode cX10_notes 123 = .ok (.invokestatic 163, 3) := by decide +kernel
theorem dX10_notes_126 : decode cX10_notes 126 = .ok (.aload_n 0, 1) := by decide +kernel
theorem dX10_notes_127 : decode cX10_notes 127 = .ok (.iconst 0, 1) := by decide +kernel
theorem dX10_notes_128 : decode cX10_notes 128 = .ok (.putfield 167, 3) := by decide +kernel
theorem dX10_notes_131 : decode cX10_notes 131 = .ok (.iload_n 1, 1) := by decide +kernel
theorem dX10_notes_132 : decode cX10_notes 132 = .ok (.ireturn, 1) := by decide +kernel
theorem dX10_fault_0 : decode cX10_fault 0 = .ok (.aload_n 0, 1) := by decide +kernel
theorem dX10_fault_1 : decode cX10_fault 1 = .ok (.iconst 0, 1) := by decide +kernel
theorem dX10_fault_2 : decode cX10_fault 2 = .ok (.putfield 1, 3) := by decide +kernel
theorem dX10_fault_5 : decode cX10_fault 5 = .ok (.aload_n 0, 1) := by decide +kernel
theorem dX10_fault_6 : decode cX10_fault 6 = .ok (.getfield 58, 3) := by decide +kernel
theorem dX10_fault_9 : decode cX10_fault 9 = .ok (.ireturn, 1) := by decide +kernel
theorem dX10_weight_0 : decode cX10_weight 0 = .ok (.iload_n 0, 1) := by decide +kernel
theorem dX10_weight_1 : decode cX10_weight 1 = .ok (.ifCond .ne 16, 3) := by decide +kernel
theorem dX10_weight_4 : decode cX10_weight 4 = .ok (.iload_n 1, 1) := by decide +kernel
theorem dX10_weight_5 : decode cX10_weight 5 = .ok (.ifCond .ne 8, 3) := by decide +kernel
theorem dX10_weight_8 : decode cX10_weight 8 = .ok (.bipush 10, 2) := by decide +kernel
theorem dX10_weight_10 : decode cX10_weight 10 = .ok (.goto 19, 3) := by decide +kernel
theorem dX10_weight_13 : decode cX10_weight 13 = .ok (.iload_n 1, 1) := by decide +kernel
theorem dX10_weight_14 : decode cX10_weight 14 = .ok (.goto 15, 3) := by decide +kernel
theorem dX10_weight_17 : decode cX10_weight 17 = .ok (.iload_n 1, 1) := by decide +kernel
theorem dX10_weight_18 : decode cX10_weight 18 = .ok (.ifCond .ne 8, 3) := by decide +kernel
theorem dX10_weight_21 : decode cX10_weight 21 = .ok (.bipush (-8), 2) := by decide +kernel
theorem dX10_weight_23 : decode cX10_weight 23 = .ok (.goto 6, 3) := by decide +kernel
theorem dX10_weight_26 : decode cX10_weight 26 = .ok (.iconst 1, 1) := by decide +kernel
theorem dX10_weight_27 : decode cX10_weight 27 = .ok (.iload_n 1, 1) := by decide +kernel
theorem dX10_weight_28 : decode cX10_weight 28 = .ok (.isub, 1) := by decide +kernel
theorem dX10_weight_29 : decode cX10_weight 29 = .ok (.ireturn, 1) := by decide +kernel
theorem dX10_longer_0 : decode cX10_longer 0 = .ok (.iload_n 3, 1) := by decide +kernel
theorem dX10_longer_1 : decode cX10_longer 1 = .ok (.aload_n 0, 1) := by decide +kernel
theorem dX10_longer_2 : decode cX10_longer 2 = .ok (.getfield 103, 3) := by decide +kernel
theorem dX10_longer_5 : decode cX10_longer 5 = .ok (.bipush 8, 2) := by decide +kernel
theorem dX10_longer_7 : decode cX10_longer 7 = .ok (.iload_n 1, 1) := by decide +kernel
theorem dX10_longer_8 : decode cX10_longer 8 = .ok (.imul, 1) := by decide +kernel
theorem dX10_longer_9 : decode cX10_longer 9 = .ok (.iload_n 2, 1) := by decide +kernel
theorem dX10_longer_10 : decode cX10_longer 10 = .ok (.iadd, 1) := by decide +kernel
theorem dX10_longer_11 : decode cX10_longer 11 = .ok (.iaload, 1) := by decide +kernel
theorem dX10_longer_12 : decode cX10_longer 12 = .ok (.if_icmp .le 15, 3) := by decide +kernel
theorem dX10_longer_15 : decode cX10_longer 15 = .ok (.aload_n 0, 1) := by decide +kernel
theorem dX10_longer_16 : decode cX10_longer 16 = .ok (.getfield 103, 3) := by decide +kernel
theorem dX10_longer_19 : decode cX10_longer 19 = .ok (.bipush 8, 2) := by decide +kernel
theorem dX10_longer_21 : decode cX10_longer 21 = .ok (.iload_n 1, 1) := by decide +kernel
theorem dX10_longer_22 : decode cX10_longer 22 = .ok (.imul, 1) := by decide +kernel
theorem dX10_longer_23 : decode cX10_longer 23 = .ok (.iload_n 2, 1) := by decide +kernel
theorem dX10_longer_24 : decode cX10_longer 24 = .ok (.iadd, 1) := by decide +kernel
theorem dX10_longer_25 : decode cX10_longer 25 = .ok (.iload_n 3, 1) := by decide +kernel
theorem dX10_longer_26 : decode cX10_longer 26 = .ok (.iastore, 1) := by decide +kernel
theorem dX10_longer_27 : decode cX10_longer 27 = .ok (.return_, 1) := by decide +kernel
theorem dX10_laysSteps_0 : decode cX10_laysSteps 0 = .ok (.iconst 0, 1) := by decide +kernel
theorem dX10_laysSteps_1 : decode cX10_laysSteps 1 = .ok (.istore_n 3, 1) := by decide +kernel
theorem dX10_laysSteps_2 : decode cX10_laysSteps 2 = .ok (.iload_n 3, 1) := by decide +kernel
theorem dX10_laysSteps_3 : decode cX10_laysSteps 3 = .ok (.bipush 8, 2) := by decide +kernel
theorem dX10_laysSteps_5 : decode cX10_laysSteps 5 = .ok (.if_icmp .ge 49, 3) := by decide +kernel
theorem dX10_laysSteps_8 : decode cX10_laysSteps 8 = .ok (.iconst 0, 1) := by decide +kernel
theorem dX10_laysSteps_9 : decode cX10_laysSteps 9 = .ok (.istore 4, 2) := by decide +kernel
theorem dX10_laysSteps_11 : decode cX10_laysSteps 11 = .ok (.iload 4, 2) := by decide +kernel
theorem dX10_laysSteps_13 : decode cX10_laysSteps 13 = .ok (.bipush 8, 2) := by decide +kernel
theorem dX10_laysSteps_15 : decode cX10_laysSteps 15 = .ok (.if_icmp .ge 33, 3) := by decide +kernel
theorem dX10_laysSteps_18 : decode cX10_laysSteps 18 = .ok (.aload_n 0, 1) := by decide +kernel
theorem dX10_laysSteps_19 : decode cX10_laysSteps 19 = .ok (.getfield 103, 3) := by decide +kernel
theorem dX10_laysSteps_22 : decode cX10_laysSteps 22 = .ok (.bipush 8, 2) := by decide +kernel
theorem dX10_laysSteps_24 : decode cX10_laysSteps 24 = .ok (.iload_n 3, 1) := by decide +kernel
theorem dX10_laysSteps_25 : decode cX10_laysSteps 25 = .ok (.imul, 1) := by decide +kernel
theorem dX10_laysSteps_26 : decode cX10_laysSteps 26 = .ok (.iload 4, 2) := by decide +kernel
theorem dX10_laysSteps_28 : decode cX10_laysSteps 28 = .ok (.iadd, 1) := by decide +kernel
theorem dX10_laysSteps_29 : decode cX10_laysSteps 29 = .ok (.iload_n 3, 1) := by decide +kernel
theorem dX10_laysSteps_30 : decode cX10_laysSteps 30 = .ok (.iload 4, 2) := by decide +kernel
theorem dX10_laysSteps_32 : decode cX10_laysSteps 32 = .ok (.if_icmp .ne 7, 3) := by decide +kernel
theorem dX10_laysSteps_35 : decode cX10_laysSteps 35 = .ok (.iconst 0, 1) := by decide +kernel
theorem dX10_laysSteps_36 : decode cX10_laysSteps 36 = .ok (.goto 5, 3) := by decide +kernel
theorem dX10_laysSteps_39 : decode cX10_laysSteps 39 = .ok (.ldc 170, 2) := by decide +kernel
theorem dX10_laysSteps_41 : decode cX10_laysSteps 41 = .ok (.iastore, 1) := by decide +kernel
theorem dX10_laysSteps_42 : decode cX10_laysSteps 42 = .ok (.iinc 4 1, 3) := by decide +kernel
theorem dX10_laysSteps_45 : decode cX10_laysSteps 45 = .ok (.goto (-34), 3) := by decide +kernel
theorem dX10_laysSteps_48 : decode cX10_laysSteps 48 = .ok (.iinc 3 1, 3) := by decide +kernel
theorem dX10_laysSteps_51 : decode cX10_laysSteps 51 = .ok (.goto (-49), 3) := by decide +kernel
theorem dX10_laysSteps_54 : decode cX10_laysSteps 54 = .ok (.iconst 0, 1) := by decide +kernel
theorem dX10_laysSteps_55 : decode cX10_laysSteps 55 = .ok (.istore_n 3, 1) := by decide +kernel
theorem dX10_laysSteps_56 : decode cX10_laysSteps 56 = .ok (.iload_n 3, 1) := by decide +kernel
theorem dX10_laysSteps_57 : decode cX10_laysSteps 57 = .ok (.aload_n 1, 1) := by decide +kernel
theorem dX10_laysSteps_58 : decode cX10_laysSteps 58 = .ok (.iconst 1, 1) := by decide +kernel
theorem dX10_laysSteps_59 : decode cX10_laysSteps 59 = .ok (.iaload, 1) := by decide +kernel
theorem dX10_laysSteps_60 : decode cX10_laysSteps 60 = .ok (.if_icmp .ge 65, 3) := by decide +kernel
theorem dX10_laysSteps_63 : decode cX10_laysSteps 63 = .ok (.aload_n 1, 1) := by decide +kernel
theorem dX10_laysSteps_64 : decode cX10_laysSteps 64 = .ok (.iconst 2, 1) := by decide +kernel
theorem dX10_laysSteps_65 : decode cX10_laysSteps 65 = .ok (.iload_n 3, 1) := by decide +kernel
theorem dX10_laysSteps_66 : decode cX10_laysSteps 66 = .ok (.iadd, 1) := by decide +kernel
theorem dX10_laysSteps_67 : decode cX10_laysSteps 67 = .ok (.iaload, 1) := by decide +kernel
theorem dX10_laysSteps_68 : decode cX10_laysSteps 68 = .ok (.iload_n 2, 1) := by decide +kernel
theorem dX10_laysSteps_69 : decode cX10_laysSteps 69 = .ok (.invokestatic 171, 3) := by decide +kernel
theorem dX10_laysSteps_72 : decode cX10_laysSteps 72 = .ok (.istore 4, 2) := by decide +kernel
theorem dX10_laysSteps_74 : decode cX10_laysSteps 74 = .ok (.aload_n 0, 1) := by decide +kernel
theorem dX10_laysSteps_75 : decode cX10_laysSteps 75 = .ok (.aload_n 1, 1) := by decide +kernel
theorem dX10_laysSteps_76 : decode cX10_laysSteps 76 = .ok (.bipush 30, 2) := by decide +kernel
theorem dX10_laysSteps_78 : decode cX10_laysSteps 78 = .ok (.iload_n 3, 1) := by decide +kernel
theorem dX10_laysSteps_79 : decode cX10_laysSteps 79 = .ok (.iadd, 1) := by decide +kernel
theorem dX10_laysSteps_80 : decode cX10_laysSteps 80 = .ok (.iaload, 1) := by decide +kernel
theorem dX10_laysSteps_81 : decode cX10_laysSteps 81 = .ok (.aload_n 1, 1) := by decide +kernel
theorem dX10_laysSteps_82 : decode cX10_laysSteps 82 = .ok (.bipush 58, 2) := by decide +kernel
theorem dX10_laysSteps_84 : decode cX10_laysSteps 84 = .ok (.iload_n 3, 1) := by decide +kernel
theorem dX10_laysSteps_85 : decode cX10_laysSteps 85 = .ok (.iadd, 1) := by decide +kernel
theorem dX10_laysSteps_86 : decode cX10_laysSteps 86 = .ok (.iaload, 1) := by decide +kernel
theorem dX10_laysSteps_87 : decode cX10_laysSteps 87 = .ok (.iload 4, 2) := by decide +kernel
theorem dX10_laysSteps_89 : decode cX10_laysSteps 89 = .ok (.invokevirtual 175, 3) := by decide +kernel
theorem dX10_laysSteps_92 : decode cX10_laysSteps 92 = .ok (.aload_n 1, 1) := by decide +kernel
theorem dX10_laysSteps_93 : decode cX10_laysSteps 93 = .ok (.iconst 2, 1) := by decide +kernel
theorem dX10_laysSteps_94 : decode cX10_laysSteps 94 = .ok (.iload_n 3, 1) := by decide +kernel
theorem dX10_laysSteps_95 : decode cX10_laysSteps 95 = .ok (.iadd, 1) := by decide +kernel
theorem dX10_laysSteps_96 : decode cX10_laysSteps 96 = .ok (.iaload, 1) := by decide +kernel
theorem dX10_laysSteps_97 : decode cX10_laysSteps 97 = .ok (.iconst 1, 1) := by decide +kernel
theorem dX10_laysSteps_98 : decode cX10_laysSteps 98 = .ok (.if_icmp .ne 21, 3) := by decide +kernel
theorem dX10_laysSteps_101 : decode cX10_laysSteps 101 = .ok (.aload_n 0, 1) := by decide +kernel
theorem dX10_laysSteps_102 : decode cX10_laysSteps 102 = .ok (.aload_n 1, 1) := by decide +kernel
theorem dX10_laysSteps_103 : decode cX10_laysSteps 103 = .ok (.bipush 58, 2) := by decide +kernel
theorem dX10_laysSteps_105 : decode cX10_laysSteps 105 = .ok (.iload_n 3, 1) := by decide +kernel
theorem dX10_laysSteps_106 : decode cX10_laysSteps 106 = .ok (.iadd, 1) := by decide +kernel
theorem dX10_laysSteps_107 : decode cX10_laysSteps 107 = .ok (.iaload, 1) := by decide +kernel
theorem dX10_laysSteps_108 : decode cX10_laysSteps 108 = .ok (.aload_n 1, 1) := by decide +kernel
theorem dX10_laysSteps_109 : decode cX10_laysSteps 109 = .ok (.bipush 30, 2) := by decide +kernel
theorem dX10_laysSteps_111 : decode cX10_laysSteps 111 = .ok (.iload_n 3, 1) := by decide +kernel
theorem dX10_laysSteps_112 : decode cX10_laysSteps 112 = .ok (.iadd, 1) := by decide +kernel
theorem dX10_laysSteps_113 : decode cX10_laysSteps 113 = .ok (.iaload, 1) := by decide +kernel
theorem dX10_laysSteps_114 : decode cX10_laysSteps 114 = .ok (.iload 4, 2) := by decide +kernel
theorem dX10_laysSteps_116 : decode cX10_laysSteps 116 = .ok (.invokevirtual 175, 3) := by decide +kernel
theorem dX10_laysSteps_119 : decode cX10_laysSteps 119 = .ok (.iinc 3 1, 3) := by decide +kernel
theorem dX10_laysSteps_122 : decode cX10_laysSteps 122 = .ok (.goto (-66), 3) := by decide +kernel
theorem dX10_laysSteps_125 : decode cX10_laysSteps 125 = .ok (.iconst 0, 1) := by decide +kernel
theorem dX10_laysSteps_126 : decode cX10_laysSteps 126 = .ok (.istore_n 3, 1) := by decide +kernel
theorem dX10_laysSteps_127 : decode cX10_laysSteps 127 = .ok (.iload_n 3, 1) := by decide +kernel
theorem dX10_laysSteps_128 : decode cX10_laysSteps 128 = .ok (.aload_n 1, 1) := by decide +kernel
theorem dX10_laysSteps_129 : decode cX10_laysSteps 129 = .ok (.iconst 0, 1) := by decide +kernel
theorem dX10_laysSteps_130 : decode cX10_laysSteps 130 = .ok (.iaload, 1) := by decide +kernel
theorem dX10_laysSteps_131 : decode cX10_laysSteps 131 = .ok (.if_icmp .ge 110, 3) := by decide +kernel
theorem dX10_laysSteps_134 : decode cX10_laysSteps 134 = .ok (.iconst 0, 1) := by decide +kernel
theorem dX10_laysSteps_135 : decode cX10_laysSteps 135 = .ok (.istore 4, 2) := by decide +kernel
theorem dX10_laysSteps_137 : decode cX10_laysSteps 137 = .ok (.iload 4, 2) := by decide +kernel
theorem dX10_laysSteps_139 : decode cX10_laysSteps 139 = .ok (.aload_n 1, 1) := by decide +kernel
theorem dX10_laysSteps_140 : decode cX10_laysSteps 140 = .ok (.iconst 0, 1) := by decide +kernel
theorem dX10_laysSteps_141 : decode cX10_laysSteps 141 = .ok (.iaload, 1) := by decide +kernel
theorem dX10_laysSteps_142 : decode cX10_laysSteps 142 = .ok (.if_icmp .ge 93, 3) := by decide +kernel
theorem dX10_laysSteps_145 : decode cX10_laysSteps 145 = .ok (.iconst 0, 1) := by decide +kernel
theorem dX10_laysSteps_146 : decode cX10_laysSteps 146 = .ok (.istore 5, 2) := by decide +kernel
theorem dX10_laysSteps_148 : decode cX10_laysSteps 148 = .ok (.iload 5, 2) := by decide +kernel
theorem dX10_laysSteps_150 : decode cX10_laysSteps 150 = .ok (.aload_n 1, 1) := by decide +kernel
theorem dX10_laysSteps_151 : decode cX10_laysSteps 151 = .ok (.iconst 0, 1) := by decide +kernel
theorem dX10_laysSteps_152 : decode cX10_laysSteps 152 = .ok (.iaload, 1) := by decide +kernel
theorem dX10_laysSteps_153 : decode cX10_laysSteps 153 = .ok (.if_icmp .ge 76, 3) := by decide +kernel
theorem dX10_laysSteps_156 : decode cX10_laysSteps 156 = .ok (.aload_n 0, 1) := by decide +kernel
theorem dX10_laysSteps_157 : decode cX10_laysSteps 157 = .ok (.getfield 103, 3) := by decide +kernel
theorem dX10_laysSteps_160 : decode cX10_laysSteps 160 = .ok (.bipush 8, 2) := by decide +kernel
theorem dX10_laysSteps_162 : decode cX10_laysSteps 162 = .ok (.iload 4, 2) := by decide +kernel
theorem dX10_laysSteps_164 : decode cX10_laysSteps 164 = .ok (.imul, 1) := by decide +kernel
theorem dX10_laysSteps_165 : decode cX10_laysSteps 165 = .ok (.iload_n 3, 1) := by decide +kernel
theorem dX10_laysSteps_166 : decode cX10_laysSteps 166 = .ok (.iadd, 1) := by decide +kernel
theorem dX10_laysSteps_167 : decode cX10_laysSteps 167 = .ok (.iaload, 1) := by decide +kernel
theorem dX10_laysSteps_168 : decode cX10_laysSteps 168 = .ok (.ldc 170, 2) := by decide +kernel
theorem dX10_laysSteps_170 : decode cX10_laysSteps 170 = .ok (.if_icmp .le 53, 3) := by decide +kernel
theorem dX10_laysSteps_173 : decode cX10_laysSteps 173 = .ok (.aload_n 0, 1) := by decide +kernel
theorem dX10_laysSteps_174 : decode cX10_laysSteps 174 = .ok (.getfield 103, 3) := by decide +kernel
theorem dX10_laysSteps_177 : decode cX10_laysSteps 177 = .ok (.bipush 8, 2) := by decide +kernel
theorem dX10_laysSteps_179 : decode cX10_laysSteps 179 = .ok (.iload_n 3, 1) := by decide +kernel
theorem dX10_laysSteps_180 : decode cX10_laysSteps 180 = .ok (.imul, 1) := by decide +kernel
theorem dX10_laysSteps_181 : decode cX10_laysSteps 181 = .ok (.iload 5, 2) := by decide +kernel
theorem dX10_laysSteps_183 : decode cX10_laysSteps 183 = .ok (.iadd, 1) := by decide +kernel
theorem dX10_laysSteps_184 : decode cX10_laysSteps 184 = .ok (.iaload, 1) := by decide +kernel
theorem dX10_laysSteps_185 : decode cX10_laysSteps 185 = .ok (.ldc 170, 2) := by decide +kernel
theorem dX10_laysSteps_187 : decode cX10_laysSteps 187 = .ok (.if_icmp .le 36, 3) := by decide +kernel
theorem dX10_laysSteps_190 : decode cX10_laysSteps 190 = .ok (.aload_n 0, 1) := by decide +kernel
theorem dX10_laysSteps_191 : decode cX10_laysSteps 191 = .ok (.iload 4, 2) := by decide +kernel
theorem dX10_laysSteps_193 : decode cX10_laysSteps 193 = .ok (.iload 5, 2) := by decide +kernel
theorem dX10_laysSteps_195 : decode cX10_laysSteps 195 = .ok (.aload_n 0, 1) := by decide +kernel
theorem dX10_laysSteps_196 : decode cX10_laysSteps 196 = .ok (.getfield 103, 3) := by decide +kernel
theorem dX10_laysSteps_199 : decode cX10_laysSteps 199 = .ok (.bipush 8, 2) := by decide +kernel
theorem dX10_laysSteps_201 : decode cX10_laysSteps 201 = .ok (.iload 4, 2) := by decide +kernel
theorem dX10_laysSteps_203 : decode cX10_laysSteps 203 = .ok (.imul, 1) := by decide +kernel
theorem dX10_laysSteps_204 : decode cX10_laysSteps 204 = .ok (.iload_n 3, 1) := by decide +kernel
theorem dX10_laysSteps_205 : decode cX10_laysSteps 205 = .ok (.iadd, 1) := by decide +kernel
theorem dX10_laysSteps_206 : decode cX10_laysSteps 206 = .ok (.iaload, 1) := by decide +kernel
theorem dX10_laysSteps_207 : decode cX10_laysSteps 207 = .ok (.aload_n 0, 1) := by decide +kernel
theorem dX10_laysSteps_208 : decode cX10_laysSteps 208 = .ok (.getfield 103, 3) := by decide +kernel
theorem dX10_laysSteps_211 : decode cX10_laysSteps 211 = .ok (.bipush 8, 2) := by decide +kernel
theorem dX10_laysSteps_213 : decode cX10_laysSteps 213 = .ok (.iload_n 3, 1) := by decide +kernel
theorem dX10_laysSteps_214 : decode cX10_laysSteps 214 = .ok (.imul, 1) := by decide +kernel
theorem dX10_laysSteps_215 : decode cX10_laysSteps 215 = .ok (.iload 5, 2) := by decide +kernel
theorem dX10_laysSteps_217 : decode cX10_laysSteps 217 = .ok (.iadd, 1) := by decide +kernel
theorem dX10_laysSteps_218 : decode cX10_laysSteps 218 = .ok (.iaload, 1) := by decide +kernel
theorem dX10_laysSteps_219 : decode cX10_laysSteps 219 = .ok (.iadd, 1) := by decide +kernel
theorem dX10_laysSteps_220 : decode cX10_laysSteps 220 = .ok (.invokevirtual 175, 3) := by decide +kernel
theorem dX10_laysSteps_223 : decode cX10_laysSteps 223 = .ok (.iinc 5 1, 3) := by decide +kernel
theorem dX10_laysSteps_226 : decode cX10_laysSteps 226 = .ok (.goto (-78), 3) := by decide +kernel
theorem dX10_laysSteps_229 : decode cX10_laysSteps 229 = .ok (.iinc 4 1, 3) := by decide +kernel
theorem dX10_laysSteps_232 : decode cX10_laysSteps 232 = .ok (.goto (-95), 3) := by decide +kernel
theorem dX10_laysSteps_235 : decode cX10_laysSteps 235 = .ok (.iinc 3 1, 3) := by decide +kernel
theorem dX10_laysSteps_238 : decode cX10_laysSteps 238 = .ok (.goto (-111), 3) := by decide +kernel
theorem dX10_laysSteps_241 : decode cX10_laysSteps 241 = .ok (.return_, 1) := by decide +kernel
theorem dX10_isEven_0 : decode cX10_isEven 0 = .ok (.aload_n 0, 1) := by decide +kernel
theorem dX10_isEven_1 : decode cX10_isEven 1 = .ok (.aload_n 1, 1) := by decide +kernel
theorem dX10_isEven_2 : decode cX10_isEven 2 = .ok (.iload_n 2, 1) := by decide +kernel
theorem dX10_isEven_3 : decode cX10_isEven 3 = .ok (.invokevirtual 179, 3) := by decide +kernel
theorem dX10_isEven_6 : decode cX10_isEven 6 = .ok (.iconst 0, 1) := by decide +kernel
theorem dX10_isEven_7 : decode cX10_isEven 7 = .ok (.istore_n 3, 1) := by decide +kernel
theorem dX10_isEven_8 : decode cX10_isEven 8 = .ok (.iload_n 3, 1) := by decide +kernel
theorem dX10_isEven_9 : decode cX10_isEven 9 = .ok (.aload_n 1, 1) := by decide +kernel
theorem dX10_isEven_10 : decode cX10_isEven 10 = .ok (.iconst 0, 1) := by decide +kernel
theorem dX10_isEven_11 : decode cX10_isEven 11 = .ok (.iaload, 1) := by decide +kernel
theorem dX10_isEven_12 : decode cX10_isEven 12 = .ok (.if_icmp .ge 25, 3) := by decide +kernel
theorem dX10_isEven_15 : decode cX10_isEven 15 = .ok (.aload_n 0, 1) := by decide +kernel
theorem dX10_isEven_16 : decode cX10_isEven 16 = .ok (.getfield 103, 3) := by decide +kernel
theorem dX10_isEven_19 : decode cX10_isEven 19 = .ok (.bipush 8, 2) := by decide +kernel
theorem dX10_isEven_21 : decode cX10_isEven 21 = .ok (.iload_n 3, 1) := by decide +kernel
theorem dX10_isEven_22 : decode cX10_isEven 22 = .ok (.imul, 1) := by decide +kernel
theorem dX10_isEven_23 : decode cX10_isEven 23 = .ok (.iload_n 3, 1) := by decide +kernel
theorem dX10_isEven_24 : decode cX10_isEven 24 = .ok (.iadd, 1) := by decide +kernel
theorem dX10_isEven_25 : decode cX10_isEven 25 = .ok (.iaload, 1) := by decide +kernel
theorem dX10_isEven_26 : decode cX10_isEven 26 = .ok (.ifCond .le 5, 3) := by decide +kernel
theorem dX10_isEven_29 : decode cX10_isEven 29 = .ok (.iconst 0, 1) := by decide +kernel
theorem dX10_isEven_30 : decode cX10_isEven 30 = .ok (.ireturn, 1) := by decide +kernel
theorem dX10_isEven_31 : decode cX10_isEven 31 = .ok (.iinc 3 1, 3) := by decide +kernel
theorem dX10_isEven_34 : decode cX10_isEven 34 = .ok (.goto (-26), 3) := by decide +kernel
theorem dX10_isEven_37 : decode cX10_isEven 37 = .ok (.iconst 1, 1) := by decide +kernel
theorem dX10_isEven_38 : decode cX10_isEven 38 = .ok (.ireturn, 1) := by decide +kernel
theorem dX10_isGood_0 : decode cX10_isGood 0 = .ok (.aload_n 0, 1) := by decide +kernel
theorem dX10_isGood_1 : decode cX10_isGood 1 = .ok (.aload_n 1, 1) := by decide +kernel
theorem dX10_isGood_2 : decode cX10_isGood 2 = .ok (.iconst 0, 1) := by decide +kernel
theorem dX10_isGood_3 : decode cX10_isGood 3 = .ok (.invokevirtual 183, 3) := by decide +kernel
theorem dX10_isGood_6 : decode cX10_isGood 6 = .ok (.ireturn, 1) := by decide +kernel
theorem dX10_leastOf_0 : decode cX10_leastOf 0 = .ok (.iconst 1, 1) := by decide +kernel
theorem dX10_leastOf_1 : decode cX10_leastOf 1 = .ok (.istore_n 2, 1) := by decide +kernel
theorem dX10_leastOf_2 : decode cX10_leastOf 2 = .ok (.aload_n 0, 1) := by decide +kernel
theorem dX10_leastOf_3 : decode cX10_leastOf 3 = .ok (.aload_n 1, 1) := by decide +kernel
theorem dX10_leastOf_4 : decode cX10_leastOf 4 = .ok (.iload_n 2, 1) := by decide +kernel
theorem dX10_leastOf_5 : decode cX10_leastOf 5 = .ok (.invokevirtual 183, 3) := by decide +kernel
theorem dX10_leastOf_8 : decode cX10_leastOf 8 = .ok (.ifCond .ne 9, 3) := by decide +kernel
theorem dX10_leastOf_11 : decode cX10_leastOf 11 = .ok (.iinc 2 1, 3) := by decide +kernel
theorem dX10_leastOf_14 : decode cX10_leastOf 14 = .ok (.goto (-12), 3) := by decide +kernel
theorem dX10_leastOf_17 : decode cX10_leastOf 17 = .ok (.iload_n 2, 1) := by decide +kernel
theorem dX10_leastOf_18 : decode cX10_leastOf 18 = .ok (.ireturn, 1) := by decide +kernel
theorem dX10_sign_0 : decode cX10_sign 0 = .ok (.iload_n 0, 1) := by decide +kernel
theorem dX10_sign_1 : decode cX10_sign 1 = .ok (.ifCond .ne 7, 3) := by decide +kernel
theorem dX10_sign_4 : decode cX10_sign 4 = .ok (.iconst 1, 1) := by decide +kernel
theorem dX10_sign_5 : decode cX10_sign 5 = .ok (.goto 4, 3) := by decide +kernel
theorem dX10_sign_8 : decode cX10_sign 8 = .ok (.iconst (-1), 1) := by decide +kernel
theorem dX10_sign_9 : decode cX10_sign 9 = .ok (.ireturn, 1) := by decide +kernel
theorem dX10_leads_0 : decode cX10_leads 0 = .ok (.aload_n 0, 1) := by decide +kernel
theorem dX10_leads_1 : decode cX10_leads 1 = .ok (.bipush 30, 2) := by decide +kernel
theorem dX10_leads_3 : decode cX10_leads 3 = .ok (.iload_n 1, 1) := by decide +kernel
theorem dX10_leads_4 : decode cX10_leads 4 = .ok (.iadd, 1) := by decide +kernel
theorem dX10_leads_5 : decode cX10_leads 5 = .ok (.iaload, 1) := by decide +kernel
theorem dX10_leads_6 : decode cX10_leads 6 = .ok (.iload_n 2, 1) := by decide +kernel
theorem dX10_leads_7 : decode cX10_leads 7 = .ok (.if_icmp .ne 12, 3) := by decide +kernel
theorem dX10_leads_10 : decode cX10_leads 10 = .ok (.aload_n 0, 1) := by decide +kernel
theorem dX10_leads_11 : decode cX10_leads 11 = .ok (.bipush 58, 2) := by decide +kernel
theorem dX10_leads_13 : decode cX10_leads 13 = .ok (.iload_n 1, 1) := by decide +kernel
theorem dX10_leads_14 : decode cX10_leads 14 = .ok (.iadd, 1) := by decide +kernel
theorem dX10_leads_15 : decode cX10_leads 15 = .ok (.iaload, 1) := by decide +kernel
theorem dX10_leads_16 : decode cX10_leads 16 = .ok (.goto 32, 3) := by decide +kernel
theorem dX10_leads_19 : decode cX10_leads 19 = .ok (.aload_n 0, 1) := by decide +kernel
theorem dX10_leads_20 : decode cX10_leads 20 = .ok (.bipush 58, 2) := by decide +kernel
theorem dX10_leads_22 : decode cX10_leads 22 = .ok (.iload_n 1, 1) := by decide +kernel
theorem dX10_leads_23 : decode cX10_leads 23 = .ok (.iadd, 1) := by decide +kernel
theorem dX10_leads_24 : decode cX10_leads 24 = .ok (.iaload, 1) := by decide +kernel
theorem dX10_leads_25 : decode cX10_leads 25 = .ok (.iload_n 2, 1) := by decide +kernel
theorem dX10_leads_26 : decode cX10_leads 26 = .ok (.if_icmp .ne 21, 3) := by decide +kernel
theorem dX10_leads_29 : decode cX10_leads 29 = .ok (.aload_n 0, 1) := by decide +kernel
theorem dX10_leads_30 : decode cX10_leads 30 = .ok (.iconst 2, 1) := by decide +kernel
theorem dX10_leads_31 : decode cX10_leads 31 = .ok (.iload_n 1, 1) := by decide +kernel
theorem dX10_leads_32 : decode cX10_leads 32 = .ok (.iadd, 1) := by decide +kernel
theorem dX10_leads_33 : decode cX10_leads 33 = .ok (.iaload, 1) := by decide +kernel
theorem dX10_leads_34 : decode cX10_leads 34 = .ok (.iconst 1, 1) := by decide +kernel
theorem dX10_leads_35 : decode cX10_leads 35 = .ok (.if_icmp .ne 12, 3) := by decide +kernel
theorem dX10_leads_38 : decode cX10_leads 38 = .ok (.aload_n 0, 1) := by decide +kernel
theorem dX10_leads_39 : decode cX10_leads 39 = .ok (.bipush 30, 2) := by decide +kernel
theorem dX10_leads_41 : decode cX10_leads 41 = .ok (.iload_n 1, 1) := by decide +kernel
theorem dX10_leads_42 : decode cX10_leads 42 = .ok (.iadd, 1) := by decide +kernel
theorem dX10_leads_43 : decode cX10_leads 43 = .ok (.iaload, 1) := by decide +kernel
theorem dX10_leads_44 : decode cX10_leads 44 = .ok (.goto 4, 3) := by decide +kernel
theorem dX10_leads_47 : decode cX10_leads 47 = .ok (.iconst (-1), 1) := by decide +kernel
theorem dX10_leads_48 : decode cX10_leads 48 = .ok (.ireturn, 1) := by decide +kernel
theorem dX10_laysBest_0 : decode cX10_laysBest 0 = .ok (.iconst 0, 1) := by decide +kernel
theorem dX10_laysBest_1 : decode cX10_laysBest 1 = .ok (.istore_n 3, 1) := by decide +kernel
theorem dX10_laysBest_2 : decode cX10_laysBest 2 = .ok (.iload_n 3, 1) := by decide +kernel
theorem dX10_laysBest_3 : decode cX10_laysBest 3 = .ok (.bipush 9, 2) := by decide +kernel
theorem dX10_laysBest_5 : decode cX10_laysBest 5 = .ok (.if_icmp .ge 171, 3) := by decide +kernel
theorem dX10_laysBest_8 : decode cX10_laysBest 8 = .ok (.iconst 0, 1) := by decide +kernel
theorem dX10_laysBest_9 : decode cX10_laysBest 9 = .ok (.istore 4, 2) := by decide +kernel
theorem dX10_laysBest_11 : decode cX10_laysBest 11 = .ok (.iload 4, 2) := by decide +kernel
theorem dX10_laysBest_13 : decode cX10_laysBest 13 = .ok (.bipush 8, 2) := by decide +kernel
theorem dX10_laysBest_15 : decode cX10_laysBest 15 = .ok (.if_icmp .ge 155, 3) := by decide +kernel
theorem dX10_laysBest_18 : decode cX10_laysBest 18 = .ok (.aload_n 0, 1) := by decide +kernel
theorem dX10_laysBest_19 : decode cX10_laysBest 19 = .ok (.getfield 106, 3) := by decide +kernel
theorem dX10_laysBest_22 : decode cX10_laysBest 22 = .ok (.bipush 8, 2) := by decide +kernel
theorem dX10_laysBest_24 : decode cX10_laysBest 24 = .ok (.iload_n 3, 1) := by decide +kernel
theorem dX10_laysBest_25 : decode cX10_laysBest 25 = .ok (.imul, 1) := by decide +kernel
theorem dX10_laysBest_26 : decode cX10_laysBest 26 = .ok (.iload 4, 2) := by decide +kernel
theorem dX10_laysBest_28 : decode cX10_laysBest 28 = .ok (.iadd, 1) := by decide +kernel
theorem dX10_laysBest_29 : decode cX10_laysBest 29 = .ok (.iload_n 3, 1) := by decide +kernel
theorem dX10_laysBest_30 : decode cX10_laysBest 30 = .ok (.ifCond .ne 13, 3) := by decide +kernel
theorem dX10_laysBest_33 : decode cX10_laysBest 33 = .ok (.iload 4, 2) := by decide +kernel
theorem dX10_laysBest_35 : decode cX10_laysBest 35 = .ok (.iload_n 2, 1) := by decide +kernel
theorem dX10_laysBest_36 : decode cX10_laysBest 36 = .ok (.if_icmp .ne 7, 3) := by decide +kernel
theorem dX10_laysBest_39 : decode cX10_laysBest 39 = .ok (.iconst 0, 1) := by decide +kernel
theorem dX10_laysBest_40 : decode cX10_laysBest 40 = .ok (.goto 5, 3) := by decide +kernel
theorem dX10_laysBest_43 : decode cX10_laysBest 43 = .ok (.ldc 170, 2) := by decide +kernel
theorem dX10_laysBest_45 : decode cX10_laysBest 45 = .ok (.iastore, 1) := by decide +kernel
theorem dX10_laysBest_46 : decode cX10_laysBest 46 = .ok (.iconst 0, 1) := by decide +kernel
theorem dX10_laysBest_47 : decode cX10_laysBest 47 = .ok (.istore 5, 2) := by decide +kernel
theorem dX10_laysBest_49 : decode cX10_laysBest 49 = .ok (.iload_n 3, 1) := by decide +kernel
theorem dX10_laysBest_50 : decode cX10_laysBest 50 = .ok (.ifCond .le 114, 3) := by decide +kernel
theorem dX10_laysBest_53 : decode cX10_laysBest 53 = .ok (.iload 5, 2) := by decide +kernel
theorem dX10_laysBest_55 : decode cX10_laysBest 55 = .ok (.aload_n 1, 1) := by decide +kernel
theorem dX10_laysBest_56 : decode cX10_laysBest 56 = .ok (.iconst 1, 1) := by decide +kernel
theorem dX10_laysBest_57 : decode cX10_laysBest 57 = .ok (.iaload, 1) := by decide +kernel
theorem dX10_laysBest_58 : decode cX10_laysBest 58 = .ok (.if_icmp .ge 106, 3) := by decide +kernel
theorem dX10_laysBest_61 : decode cX10_laysBest 61 = .ok (.aload_n 1, 1) := by decide +kernel
theorem dX10_laysBest_62 : decode cX10_laysBest 62 = .ok (.iload 5, 2) := by decide +kernel
theorem dX10_laysBest_64 : decode cX10_laysBest 64 = .ok (.iload 4, 2) := by decide +kernel
theorem dX10_laysBest_66 : decode cX10_laysBest 66 = .ok (.invokestatic 187, 3) := by decide +kernel
theorem dX10_laysBest_69 : decode cX10_laysBest 69 = .ok (.istore 6, 2) := by decide +kernel
theorem dX10_laysBest_71 : decode cX10_laysBest 71 = .ok (.iload 6, 2) := by decide +kernel
theorem dX10_laysBest_73 : decode cX10_laysBest 73 = .ok (.iconst (-1), 1) := by decide +kernel
theorem dX10_laysBest_74 : decode cX10_laysBest 74 = .ok (.if_icmp .eq 84, 3) := by decide +kernel
theorem dX10_laysBest_77 : decode cX10_laysBest 77 = .ok (.aload_n 0, 1) := by decide +kernel
theorem dX10_laysBest_78 : decode cX10_laysBest 78 = .ok (.getfield 106, 3) := by decide +kernel
theorem dX10_laysBest_81 : decode cX10_laysBest 81 = .ok (.bipush 8, 2) := by decide +kernel
theorem dX10_laysBest_83 : decode cX10_laysBest 83 = .ok (.iload_n 3, 1) := by decide +kernel
theorem dX10_laysBest_84 : decode cX10_laysBest 84 = .ok (.imul, 1) := by decide +kernel
theorem dX10_laysBest_85 : decode cX10_laysBest 85 = .ok (.bipush 8, 2) := by decide +kernel
theorem dX10_laysBest_87 : decode cX10_laysBest 87 = .ok (.isub, 1) := by decide +kernel
theorem dX10_laysBest_88 : decode cX10_laysBest 88 = .ok (.iload 6, 2) := by decide +kernel
theorem dX10_laysBest_90 : decode cX10_laysBest 90 = .ok (.iadd, 1) := by decide +kernel
theorem dX10_laysBest_91 : decode cX10_laysBest 91 = .ok (.iaload, 1) := by decide +kernel
theorem dX10_laysBest_92 : decode cX10_laysBest 92 = .ok (.ldc 170, 2) := by decide +kernel
theorem dX10_laysBest_94 : decode cX10_laysBest 94 = .ok (.if_icmp .ne 6, 3) := by decide +kernel
theorem dX10_laysBest_97 : decode cX10_laysBest 97 = .ok (.goto 61, 3) := by decide +kernel
theorem dX10_laysBest_100 : decode cX10_laysBest 100 = .ok (.aload_n 0, 1) := by decide +kernel
theorem dX10_laysBest_101 : decode cX10_laysBest 101 = .ok (.getfield 106, 3) := by decide +kernel
theorem dX10_laysBest_104 : decode cX10_laysBest 104 = .ok (.bipush 8, 2) := by decide +kernel
theorem dX10_laysBest_106 : decode cX10_laysBest 106 = .ok (.iload_n 3, 1) := by decide +kernel
theorem dX10_laysBest_107 : decode cX10_laysBest 107 = .ok (.imul, 1) := by decide +kernel
theorem dX10_laysBest_108 : decode cX10_laysBest 108 = .ok (.bipush 8, 2) := by decide +kernel
theorem dX10_laysBest_110 : decode cX10_laysBest 110 = .ok (.isub, 1) := by decide +kernel
theorem dX10_laysBest_111 : decode cX10_laysBest 111 = .ok (.iload 6, 2) := by decide +kernel
theorem dX10_laysBest_113 : decode cX10_laysBest 113 = .ok (.iadd, 1) := by decide +kernel
theorem dX10_laysBest_114 : decode cX10_laysBest 114 = .ok (.iaload, 1) := by decide +kernel
theorem dX10_laysBest_115 : decode cX10_laysBest 115 = .ok (.aload_n 1, 1) := by decide +kernel
theorem dX10_laysBest_116 : decode cX10_laysBest 116 = .ok (.iconst 2, 1) := by decide +kernel
theorem dX10_laysBest_117 : decode cX10_laysBest 117 = .ok (.iload 5, 2) := by decide +kernel
theorem dX10_laysBest_119 : decode cX10_laysBest 119 = .ok (.iadd, 1) := by decide +kernel
theorem dX10_laysBest_120 : decode cX10_laysBest 120 = .ok (.iaload, 1) := by decide +kernel
theorem dX10_laysBest_121 : decode cX10_laysBest 121 = .ok (.invokestatic 190, 3) := by decide +kernel
theorem dX10_laysBest_124 : decode cX10_laysBest 124 = .ok (.iadd, 1) := by decide +kernel
theorem dX10_laysBest_125 : decode cX10_laysBest 125 = .ok (.istore 7, 2) := by decide +kernel
theorem dX10_laysBest_127 : decode cX10_laysBest 127 = .ok (.iload 7, 2) := by decide +kernel
theorem dX10_laysBest_129 : decode cX10_laysBest 129 = .ok (.aload_n 0, 1) := by decide +kernel
theorem dX10_laysBest_130 : decode cX10_laysBest 130 = .ok (.getfield 106, 3) := by decide +kernel
theorem dX10_laysBest_133 : decode cX10_laysBest 133 = .ok (.bipush 8, 2) := by decide +kernel
theorem dX10_laysBest_135 : decode cX10_laysBest 135 = .ok (.iload_n 3, 1) := by decide +kernel
theorem dX10_laysBest_136 : decode cX10_laysBest 136 = .ok (.imul, 1) := by decide +kernel
theorem dX10_laysBest_137 : decode cX10_laysBest 137 = .ok (.iload 4, 2) := by decide +kernel
theorem dX10_laysBest_139 : decode cX10_laysBest 139 = .ok (.iadd, 1) := by decide +kernel
theorem dX10_laysBest_140 : decode cX10_laysBest 140 = .ok (.iaload, 1) := by decide +kernel
theorem dX10_laysBest_141 : decode cX10_laysBest 141 = .ok (.if_icmp .le 17, 3) := by decide +kernel
theorem dX10_laysBest_144 : decode cX10_laysBest 144 = .ok (.aload_n 0, 1) := by decide +kernel
theorem dX10_laysBest_145 : decode cX10_laysBest 145 = .ok (.getfield 106, 3) := by decide +kernel
theorem dX10_laysBest_148 : decode cX10_laysBest 148 = .ok (.bipush 8, 2) := by decide +kernel
theorem dX10_laysBest_150 : decode cX10_laysBest 150 = .ok (.iload_n 3, 1) := by decide +kernel
theorem dX10_laysBest_151 : decode cX10_laysBest 151 = .ok (.imul, 1) := by decide +kernel
theorem dX10_laysBest_152 : decode cX10_laysBest 152 = .ok (.iload 4, 2) := by decide +kernel
theorem dX10_laysBest_154 : decode cX10_laysBest 154 = .ok (.iadd, 1) := by decide +kernel
theorem dX10_laysBest_155 : decode cX10_laysBest 155 = .ok (.iload 7, 2) := by decide +kernel
theorem dX10_laysBest_157 : decode cX10_laysBest 157 = .ok (.iastore, 1) := by decide +kernel
theorem dX10_laysBest_158 : decode cX10_laysBest 158 = .ok (.iinc 5 1, 3) := by decide +kernel
theorem dX10_laysBest_161 : decode cX10_laysBest 161 = .ok (.goto (-112), 3) := by decide +kernel
theorem dX10_laysBest_164 : decode cX10_laysBest 164 = .ok (.iinc 4 1, 3) := by decide +kernel
theorem dX10_laysBest_167 : decode cX10_laysBest 167 = .ok (.goto (-156), 3) := by decide +kernel
theorem dX10_laysBest_170 : decode cX10_laysBest 170 = .ok (.iinc 3 1, 3) := by decide +kernel
theorem dX10_laysBest_173 : decode cX10_laysBest 173 = .ok (.goto (-171), 3) := by decide +kernel
theorem dX10_laysBest_176 : decode cX10_laysBest 176 = .ok (.return_, 1) := by decide +kernel
theorem dX10_laysRing_0 : decode cX10_laysRing 0 = .ok (.aload_n 0, 1) := by decide +kernel
theorem dX10_laysRing_1 : decode cX10_laysRing 1 = .ok (.aload_n 1, 1) := by decide +kernel
theorem dX10_laysRing_2 : decode cX10_laysRing 2 = .ok (.iload_n 3, 1) := by decide +kernel
theorem dX10_laysRing_3 : decode cX10_laysRing 3 = .ok (.invokevirtual 193, 3) := by decide +kernel
theorem dX10_laysRing_6 : decode cX10_laysRing 6 = .ok (.iload_n 2, 1) := by decide +kernel
theorem dX10_laysRing_7 : decode cX10_laysRing 7 = .ok (.invokestatic 190, 3) := by decide +kernel
theorem dX10_laysRing_10 : decode cX10_laysRing 10 = .ok (.istore 6, 2) := by decide +kernel
theorem dX10_laysRing_12 : decode cX10_laysRing 12 = .ok (.aload_n 0, 1) := by decide +kernel
theorem dX10_laysRing_13 : decode cX10_laysRing 13 = .ok (.getfield 106, 3) := by decide +kernel
theorem dX10_laysRing_16 : decode cX10_laysRing 16 = .ok (.bipush 8, 2) := by decide +kernel
theorem dX10_laysRing_18 : decode cX10_laysRing 18 = .ok (.iload 5, 2) := by decide +kernel
theorem dX10_laysRing_20 : decode cX10_laysRing 20 = .ok (.imul, 1) := by decide +kernel
theorem dX10_laysRing_21 : decode cX10_laysRing 21 = .ok (.iload 4, 2) := by decide +kernel
theorem dX10_laysRing_23 : decode cX10_laysRing 23 = .ok (.iadd, 1) := by decide +kernel
theorem dX10_laysRing_24 : decode cX10_laysRing 24 = .ok (.iaload, 1) := by decide +kernel
theorem dX10_laysRing_25 : decode cX10_laysRing 25 = .ok (.ldc 170, 2) := by decide +kernel
theorem dX10_laysRing_27 : decode cX10_laysRing 27 = .ok (.if_icmp .eq 22, 3) := by decide +kernel
theorem dX10_laysRing_30 : decode cX10_laysRing 30 = .ok (.iload 6, 2) := by decide +kernel
theorem dX10_laysRing_32 : decode cX10_laysRing 32 = .ok (.aload_n 0, 1) := by decide +kernel
theorem dX10_laysRing_33 : decode cX10_laysRing 33 = .ok (.getfield 106, 3) := by decide +kernel
theorem dX10_laysRing_36 : decode cX10_laysRing 36 = .ok (.bipush 8, 2) := by decide +kernel
theorem dX10_laysRing_38 : decode cX10_laysRing 38 = .ok (.iload 5, 2) := by decide +kernel
theorem dX10_laysRing_40 : decode cX10_laysRing 40 = .ok (.imul, 1) := by decide +kernel
theorem dX10_laysRing_41 : decode cX10_laysRing 41 = .ok (.iload 4, 2) := by decide +kernel
theorem dX10_laysRing_43 : decode cX10_laysRing 43 = .ok (.iadd, 1) := by decide +kernel
theorem dX10_laysRing_44 : decode cX10_laysRing 44 = .ok (.iaload, 1) := by decide +kernel
theorem dX10_laysRing_45 : decode cX10_laysRing 45 = .ok (.iadd, 1) := by decide +kernel
theorem dX10_laysRing_46 : decode cX10_laysRing 46 = .ok (.ifCond .ge 5, 3) := by decide +kernel
theorem dX10_laysRing_49 : decode cX10_laysRing 49 = .ok (.iconst 0, 1) := by decide +kernel
theorem dX10_laysRing_50 : decode cX10_laysRing 50 = .ok (.ireturn, 1) := by decide +kernel
theorem dX10_laysRing_51 : decode cX10_laysRing 51 = .ok (.aload_n 0, 1) := by decide +kernel
theorem dX10_laysRing_52 : decode cX10_laysRing 52 = .ok (.iconst 0, 1) := by decide +kernel
theorem dX10_laysRing_53 : decode cX10_laysRing 53 = .ok (.putfield 196, 3) := by decide +kernel
theorem dX10_laysRing_56 : decode cX10_laysRing 56 = .ok (.aload_n 0, 1) := by decide +kernel
theorem dX10_laysRing_57 : decode cX10_laysRing 57 = .ok (.iload_n 3, 1) := by decide +kernel
theorem dX10_laysRing_58 : decode cX10_laysRing 58 = .ok (.putfield 199, 3) := by decide +kernel
theorem dX10_laysRing_61 : decode cX10_laysRing 61 = .ok (.aload_n 0, 1) := by decide +kernel
theorem dX10_laysRing_62 : decode cX10_laysRing 62 = .ok (.iload 4, 2) := by decide +kernel
theorem dX10_laysRing_64 : decode cX10_laysRing 64 = .ok (.putfield 202, 3) := by decide +kernel
theorem dX10_laysRing_67 : decode cX10_laysRing 67 = .ok (.aload_n 0, 1) := by decide +kernel
theorem dX10_laysRing_68 : decode cX10_laysRing 68 = .ok (.iload_n 2, 1) := by decide +kernel
theorem dX10_laysRing_69 : decode cX10_laysRing 69 = .ok (.ifCond .ne 7, 3) := by decide +kernel
theorem dX10_laysRing_72 : decode cX10_laysRing 72 = .ok (.iconst 1, 1) := by decide +kernel
theorem dX10_laysRing_73 : decode cX10_laysRing 73 = .ok (.goto 4, 3) := by decide +kernel
theorem dX10_laysRing_76 : decode cX10_laysRing 76 = .ok (.iconst 0, 1) := by decide +kernel
theorem dX10_laysRing_77 : decode cX10_laysRing 77 = .ok (.putfield 205, 3) := by decide +kernel
theorem dX10_laysRing_80 : decode cX10_laysRing 80 = .ok (.iload 4, 2) := by decide +kernel
theorem dX10_laysRing_82 : decode cX10_laysRing 82 = .ok (.istore 7, 2) := by decide +kernel
theorem dX10_laysRing_84 : decode cX10_laysRing 84 = .ok (.iload 5, 2) := by decide +kernel
theorem dX10_laysRing_86 : decode cX10_laysRing 86 = .ok (.istore 8, 2) := by decide +kernel
theorem dX10_laysRing_88 : decode cX10_laysRing 88 = .ok (.iload 8, 2) := by decide +kernel
theorem dX10_laysRing_90 : decode cX10_laysRing 90 = .ok (.ifCond .le 102, 3) := by decide +kernel
theorem dX10_laysRing_93 : decode cX10_laysRing 93 = .ok (.iconst 0, 1) := by decide +kernel
theorem dX10_laysRing_94 : decode cX10_laysRing 94 = .ok (.istore 9, 2) := by decide +kernel
theorem dX10_laysRing_96 : decode cX10_laysRing 96 = .ok (.aload_n 0, 1) := by decide +kernel
theorem dX10_laysRing_97 : decode cX10_laysRing 97 = .ok (.aload_n 1, 1) := by decide +kernel
theorem dX10_laysRing_98 : decode cX10_laysRing 98 = .ok (.iload 9, 2) := by decide +kernel
theorem dX10_laysRing_100 : decode cX10_laysRing 100 = .ok (.iload 7, 2) := by decide +kernel
theorem dX10_laysRing_102 : decode cX10_laysRing 102 = .ok (.iload 8, 2) := by decide +kernel
theorem dX10_laysRing_104 : decode cX10_laysRing 104 = .ok (.iload 6, 2) := by decide +kernel
theorem dX10_laysRing_106 : decode cX10_laysRing 106 = .ok (.invokevirtual 208, 3) := by decide +kernel
theorem dX10_laysRing_109 : decode cX10_laysRing 109 = .ok (.ifCond .ne 9, 3) := by decide +kernel
theorem dX10_laysRing_112 : decode cX10_laysRing 112 = .ok (.iinc 9 1, 3) := by decide +kernel
theorem dX10_laysRing_115 : decode cX10_laysRing 115 = .ok (.goto (-19), 3) := by decide +kernel
theorem dX10_laysRing_118 : decode cX10_laysRing 118 = .ok (.aload_n 0, 1) := by decide +kernel
theorem dX10_laysRing_119 : decode cX10_laysRing 119 = .ok (.getfield 109, 3) := by decide +kernel
theorem dX10_laysRing_122 : decode cX10_laysRing 122 = .ok (.aload_n 0, 1) := by decide +kernel
theorem dX10_laysRing_123 : decode cX10_laysRing 123 = .ok (.getfield 196, 3) := by decide +kernel
theorem dX10_laysRing_126 : decode cX10_laysRing 126 = .ok (.iload 9, 2) := by decide +kernel
theorem dX10_laysRing_128 : decode cX10_laysRing 128 = .ok (.iastore, 1) := by decide +kernel
theorem dX10_laysRing_129 : decode cX10_laysRing 129 = .ok (.aload_n 0, 1) := by decide +kernel
theorem dX10_laysRing_130 : decode cX10_laysRing 130 = .ok (.dup, 1) := by decide +kernel
theorem dX10_laysRing_131 : decode cX10_laysRing 131 = .ok (.getfield 196, 3) := by decide +kernel
theorem dX10_laysRing_134 : decode cX10_laysRing 134 = .ok (.iconst 1, 1) := by decide +kernel
theorem dX10_laysRing_135 : decode cX10_laysRing 135 = .ok (.iadd, 1) := by decide +kernel
theorem dX10_laysRing_136 : decode cX10_laysRing 136 = .ok (.putfield 196, 3) := by decide +kernel
theorem dX10_laysRing_139 : decode cX10_laysRing 139 = .ok (.iload 6, 2) := by decide +kernel
theorem dX10_laysRing_141 : decode cX10_laysRing 141 = .ok (.aload_n 1, 1) := by decide +kernel
theorem dX10_laysRing_142 : decode cX10_laysRing 142 = .ok (.iconst 2, 1) := by decide +kernel
theorem dX10_laysRing_143 : decode cX10_laysRing 143 = .ok (.iload 9, 2) := by decide +kernel
theorem dX10_laysRing_145 : decode cX10_laysRing 145 = .ok (.iadd, 1) := by decide +kernel
theorem dX10_laysRing_146 : decode cX10_laysRing 146 = .ok (.iaload, 1) := by decide +kernel
theorem dX10_laysRing_147 : decode cX10_laysRing 147 = .ok (.invokestatic 190, 3) := by decide +kernel
theorem dX10_laysRing_150 : decode cX10_laysRing 150 = .ok (.iadd, 1) := by decide +kernel
theorem dX10_laysRing_151 : decode cX10_laysRing 151 = .ok (.istore 6, 2) := by decide +kernel
theorem dX10_laysRing_153 : decode cX10_laysRing 153 = .ok (.aload_n 0, 1) := by decide +kernel
theorem dX10_laysRing_154 : decode cX10_laysRing 154 = .ok (.dup, 1) := by decide +kernel
theorem dX10_laysRing_155 : decode cX10_laysRing 155 = .ok (.getfield 205, 3) := by decide +kernel
theorem dX10_laysRing_158 : decode cX10_laysRing 158 = .ok (.aload_n 1, 1) := by decide +kernel
theorem dX10_laysRing_159 : decode cX10_laysRing 159 = .ok (.iconst 2, 1) := by decide +kernel
theorem dX10_laysRing_160 : decode cX10_laysRing 160 = .ok (.iload 9, 2) := by decide +kernel
theorem dX10_laysRing_162 : decode cX10_laysRing 162 = .ok (.iadd, 1) := by decide +kernel
theorem dX10_laysRing_163 : decode cX10_laysRing 163 = .ok (.iaload, 1) := by decide +kernel
theorem dX10_laysRing_164 : decode cX10_laysRing 164 = .ok (.ifCond .ne 7, 3) := by decide +kernel
theorem dX10_laysRing_167 : decode cX10_laysRing 167 = .ok (.iconst 1, 1) := by decide +kernel
theorem dX10_laysRing_168 : decode cX10_laysRing 168 = .ok (.goto 4, 3) := by decide +kernel
theorem dX10_laysRing_171 : decode cX10_laysRing 171 = .ok (.iconst 0, 1) := by decide +kernel
theorem dX10_laysRing_172 : decode cX10_laysRing 172 = .ok (.iadd, 1) := by decide +kernel
theorem dX10_laysRing_173 : decode cX10_laysRing 173 = .ok (.putfield 205, 3) := by decide +kernel
theorem dX10_laysRing_176 : decode cX10_laysRing 176 = .ok (.aload_n 1, 1) := by decide +kernel
theorem dX10_laysRing_177 : decode cX10_laysRing 177 = .ok (.iload 9, 2) := by decide +kernel
theorem dX10_laysRing_179 : decode cX10_laysRing 179 = .ok (.iload 7, 2) := by decide +kernel
theorem dX10_laysRing_181 : decode cX10_laysRing 181 = .ok (.invokestatic 187, 3) := by decide +kernel
theorem dX10_laysRing_184 : decode cX10_laysRing 184 = .ok (.istore 7, 2) := by decide +kernel
theorem dX10_laysRing_186 : decode cX10_laysRing 186 = .ok (.iinc 8 (-1), 3) := by decide +kernel
theorem dX10_laysRing_189 : decode cX10_laysRing 189 = .ok (.goto (-101), 3) := by decide +kernel
theorem dX10_laysRing_192 : decode cX10_laysRing 192 = .ok (.iconst 1, 1) := by decide +kernel
theorem dX10_laysRing_193 : decode cX10_laysRing 193 = .ok (.ireturn, 1) := by decide +kernel
theorem dX10_isOn_0 : decode cX10_isOn 0 = .ok (.aload_n 1, 1) := by decide +kernel
theorem dX10_isOn_1 : decode cX10_isOn 1 = .ok (.iload_n 2, 1) := by decide +kernel
theorem dX10_isOn_2 : decode cX10_isOn 2 = .ok (.iload_n 3, 1) := by decide +kernel
theorem dX10_isOn_3 : decode cX10_isOn 3 = .ok (.invokestatic 187, 3) := by decide +kernel
theorem dX10_isOn_6 : decode cX10_isOn 6 = .ok (.istore 6, 2) := by decide +kernel
theorem dX10_isOn_8 : decode cX10_isOn 8 = .ok (.iload 6, 2) := by decide +kernel
theorem dX10_isOn_10 : decode cX10_isOn 10 = .ok (.iconst (-1), 1) := by decide +kernel
theorem dX10_isOn_11 : decode cX10_isOn 11 = .ok (.if_icmp .eq 59, 3) := by decide +kernel
theorem dX10_isOn_14 : decode cX10_isOn 14 = .ok (.aload_n 0, 1) := by decide +kernel
theorem dX10_isOn_15 : decode cX10_isOn 15 = .ok (.getfield 106, 3) := by decide +kernel
theorem dX10_isOn_18 : decode cX10_isOn 18 = .ok (.bipush 8, 2) := by decide +kernel
theorem dX10_isOn_20 : decode cX10_isOn 20 = .ok (.iload 4, 2) := by decide +kernel
theorem dX10_isOn_22 : decode cX10_isOn 22 = .ok (.imul, 1) := by decide +kernel
theorem dX10_isOn_23 : decode cX10_isOn 23 = .ok (.bipush 8, 2) := by decide +kernel
theorem dX10_isOn_25 : decode cX10_isOn 25 = .ok (.isub, 1) := by decide +kernel
theorem dX10_isOn_26 : decode cX10_isOn 26 = .ok (.iload 6, 2) := by decide +kernel
theorem dX10_isOn_28 : decode cX10_isOn 28 = .ok (.iadd, 1) := by decide +kernel
theorem dX10_isOn_29 : decode cX10_isOn 29 = .ok (.iaload, 1) := by decide +kernel
theorem dX10_isOn_30 : decode cX10_isOn 30 = .ok (.ldc 170, 2) := by decide +kernel
theorem dX10_isOn_32 : decode cX10_isOn 32 = .ok (.if_icmp .le 38, 3) := by decide +kernel
theorem dX10_isOn_35 : decode cX10_isOn 35 = .ok (.iload 5, 2) := by decide +kernel
theorem dX10_isOn_37 : decode cX10_isOn 37 = .ok (.aload_n 1, 1) := by decide +kernel
theorem dX10_isOn_38 : decode cX10_isOn 38 = .ok (.iconst 2, 1) := by decide +kernel
theorem dX10_isOn_39 : decode cX10_isOn 39 = .ok (.iload_n 2, 1) := by decide +kernel
theorem dX10_isOn_40 : decode cX10_isOn 40 = .ok (.iadd, 1) := by decide +kernel
theorem dX10_isOn_41 : decode cX10_isOn 41 = .ok (.iaload, 1) := by decide +kernel
theorem dX10_isOn_42 : decode cX10_isOn 42 = .ok (.invokestatic 190, 3) := by decide +kernel
theorem dX10_isOn_45 : decode cX10_isOn 45 = .ok (.iadd, 1) := by decide +kernel
theorem dX10_isOn_46 : decode cX10_isOn 46 = .ok (.aload_n 0, 1) := by decide +kernel
theorem dX10_isOn_47 : decode cX10_isOn 47 = .ok (.getfield 106, 3) := by decide +kernel
theorem dX10_isOn_50 : decode cX10_isOn 50 = .ok (.bipush 8, 2) := by decide +kernel
theorem dX10_isOn_52 : decode cX10_isOn 52 = .ok (.iload 4, 2) := by decide +kernel
theorem dX10_isOn_54 : decode cX10_isOn 54 = .ok (.imul, 1) := by decide +kernel
theorem dX10_isOn_55 : decode cX10_isOn 55 = .ok (.bipush 8, 2) := by decide +kernel
theorem dX10_isOn_57 : decode cX10_isOn 57 = .ok (.isub, 1) := by decide +kernel
theorem dX10_isOn_58 : decode cX10_isOn 58 = .ok (.iload 6, 2) := by decide +kernel
theorem dX10_isOn_60 : decode cX10_isOn 60 = .ok (.iadd, 1) := by decide +kernel
theorem dX10_isOn_61 : decode cX10_isOn 61 = .ok (.iaload, 1) := by decide +kernel
theorem dX10_isOn_62 : decode cX10_isOn 62 = .ok (.iadd, 1) := by decide +kernel
theorem dX10_isOn_63 : decode cX10_isOn 63 = .ok (.ifCond .lt 7, 3) := by decide +kernel
theorem dX10_isOn_66 : decode cX10_isOn 66 = .ok (.iconst 1, 1) := by decide +kernel
theorem dX10_isOn_67 : decode cX10_isOn 67 = .ok (.goto 4, 3) := by decide +kernel
theorem dX10_isOn_70 : decode cX10_isOn 70 = .ok (.iconst 0, 1) := by decide +kernel
theorem dX10_isOn_71 : decode cX10_isOn 71 = .ok (.ireturn, 1) := by decide +kernel
theorem dX10_isRefuted_0 : decode cX10_isRefuted 0 = .ok (.iconst 1, 1) := by decide +kernel
theorem dX10_isRefuted_1 : decode cX10_isRefuted 1 = .ok (.istore 5, 2) := by decide +kernel
theorem dX10_isRefuted_3 : decode cX10_isRefuted 3 = .ok (.iload 5, 2) := by decide +kernel
theorem dX10_isRefuted_5 : decode cX10_isRefuted 5 = .ok (.bipush 8, 2) := by decide +kernel
theorem dX10_isRefuted_7 : decode cX10_isRefuted 7 = .ok (.if_icmp .ge 46, 3) := by decide +kernel
theorem dX10_isRefuted_10 : decode cX10_isRefuted 10 = .ok (.aload_n 0, 1) := by decide +kernel
theorem dX10_isRefuted_11 : decode cX10_isRefuted 11 = .ok (.aload_n 1, 1) := by decide +kernel
theorem dX10_isRefuted_12 : decode cX10_isRefuted 12 = .ok (.iload_n 2, 1) := by decide +kernel
theorem dX10_isRefuted_13 : decode cX10_isRefuted 13 = .ok (.iload_n 3, 1) := by decide +kernel
theorem dX10_isRefuted_14 : decode cX10_isRefuted 14 = .ok (.iload 4, 2) := by decide +kernel
theorem dX10_isRefuted_16 : decode cX10_isRefuted 16 = .ok (.iload 5, 2) := by decide +kernel
theorem dX10_isRefuted_18 : decode cX10_isRefuted 18 = .ok (.invokevirtual 212, 3) := by decide +kernel
theorem dX10_isRefuted_21 : decode cX10_isRefuted 21 = .ok (.ifCond .eq 5, 3) := by decide +kernel
theorem dX10_isRefuted_24 : decode cX10_isRefuted 24 = .ok (.iconst 1, 1) := by decide +kernel
theorem dX10_isRefuted_25 : decode cX10_isRefuted 25 = .ok (.ireturn, 1) := by decide +kernel
theorem dX10_isRefuted_26 : decode cX10_isRefuted 26 = .ok (.iload_n 2, 1) := by decide +kernel
theorem dX10_isRefuted_27 : decode cX10_isRefuted 27 = .ok (.iconst 1, 1) := by decide +kernel
theorem dX10_isRefuted_28 : decode cX10_isRefuted 28 = .ok (.if_icmp .ne 19, 3) := by decide +kernel
theorem dX10_isRefuted_31 : decode cX10_isRefuted 31 = .ok (.aload_n 0, 1) := by decide +kernel
theorem dX10_isRefuted_32 : decode cX10_isRefuted 32 = .ok (.aload_n 1, 1) := by decide +kernel
theorem dX10_isRefuted_33 : decode cX10_isRefuted 33 = .ok (.iload_n 2, 1) := by decide +kernel
theorem dX10_isRefuted_34 : decode cX10_isRefuted 34 = .ok (.iload 4, 2) := by decide +kernel
theorem dX10_isRefuted_36 : decode cX10_isRefuted 36 = .ok (.iload_n 3, 1) := by decide +kernel
theorem dX10_isRefuted_37 : decode cX10_isRefuted 37 = .ok (.iload 5, 2) := by decide +kernel
theorem dX10_isRefuted_39 : decode cX10_isRefuted 39 = .ok (.invokevirtual 212, 3) := by decide +kernel
theorem dX10_isRefuted_42 : decode cX10_isRefuted 42 = .ok (.ifCond .eq 5, 3) := by decide +kernel
theorem dX10_isRefuted_45 : decode cX10_isRefuted 45 = .ok (.iconst 1, 1) := by decide +kernel
theorem dX10_isRefuted_46 : decode cX10_isRefuted 46 = .ok (.ireturn, 1) := by decide +kernel
theorem dX10_isRefuted_47 : decode cX10_isRefuted 47 = .ok (.iinc 5 1, 3) := by decide +kernel
theorem dX10_isRefuted_50 : decode cX10_isRefuted 50 = .ok (.goto (-47), 3) := by decide +kernel
theorem dX10_isRefuted_53 : decode cX10_isRefuted 53 = .ok (.iconst 0, 1) := by decide +kernel
theorem dX10_isRefuted_54 : decode cX10_isRefuted 54 = .ok (.ireturn, 1) := by decide +kernel
theorem dX10_keepsRing_0 : decode cX10_keepsRing 0 = .ok (.aload_n 0, 1) := by decide +kernel
theorem dX10_keepsRing_1 : decode cX10_keepsRing 1 = .ok (.aload_n 0, 1) := by decide +kernel
theorem dX10_keepsRing_2 : decode cX10_keepsRing 2 = .ok (.getfield 196, 3) := by decide +kernel
theorem dX10_keepsRing_5 : decode cX10_keepsRing 5 = .ok (.putfield 115, 3) := by decide +kernel
theorem dX10_keepsRing_8 : decode cX10_keepsRing 8 = .ok (.aload_n 0, 1) := by decide +kernel
theorem dX10_keepsRing_9 : decode cX10_keepsRing 9 = .ok (.aload_n 0, 1) := by decide +kernel
theorem dX10_keepsRing_10 : decode cX10_keepsRing 10 = .ok (.getfield 199, 3) := by decide +kernel
theorem dX10_keepsRing_13 : decode cX10_keepsRing 13 = .ok (.putfield 215, 3) := by decide +kernel
theorem dX10_keepsRing_16 : decode cX10_keepsRing 16 = .ok (.aload_n 0, 1) := by decide +kernel
theorem dX10_keepsRing_17 : decode cX10_keepsRing 17 = .ok (.aload_n 0, 1) := by decide +kernel
theorem dX10_keepsRing_18 : decode cX10_keepsRing 18 = .ok (.getfield 202, 3) := by decide +kernel
theorem dX10_keepsRing_21 : decode cX10_keepsRing 21 = .ok (.putfield 218, 3) := by decide +kernel
theorem dX10_keepsRing_24 : decode cX10_keepsRing 24 = .ok (.aload_n 0, 1) := by decide +kernel
theorem dX10_keepsRing_25 : decode cX10_keepsRing 25 = .ok (.aload_n 0, 1) := by decide +kernel
theorem dX10_keepsRing_26 : decode cX10_keepsRing 26 = .ok (.getfield 205, 3) := by decide +kernel
theorem dX10_keepsRing_29 : decode cX10_keepsRing 29 = .ok (.putfield 221, 3) := by decide +kernel
theorem dX10_keepsRing_32 : decode cX10_keepsRing 32 = .ok (.iconst 0, 1) := by decide +kernel
theorem dX10_keepsRing_33 : decode cX10_keepsRing 33 = .ok (.istore_n 1, 1) := by decide +kernel
theorem dX10_keepsRing_34 : decode cX10_keepsRing 34 = .ok (.iload_n 1, 1) := by decide +kernel
theorem dX10_keepsRing_35 : decode cX10_keepsRing 35 = .ok (.aload_n 0, 1) := by decide +kernel
theorem dX10_keepsRing_36 : decode cX10_keepsRing 36 = .ok (.getfield 196, 3) := by decide +kernel
theorem dX10_keepsRing_39 : decode cX10_keepsRing 39 = .ok (.if_icmp .ge 21, 3) := by decide +kernel
theorem dX10_keepsRing_42 : decode cX10_keepsRing 42 = .ok (.aload_n 0, 1) := by decide +kernel
theorem dX10_keepsRing_43 : decode cX10_keepsRing 43 = .ok (.getfield 112, 3) := by decide +kernel
theorem dX10_keepsRing_46 : decode cX10_keepsRing 46 = .ok (.iload_n 1, 1) := by decide +kernel
theorem dX10_keepsRing_47 : decode cX10_keepsRing 47 = .ok (.aload_n 0, 1) := by decide +kernel
theorem dX10_keepsRing_48 : decode cX10_keepsRing 48 = .ok (.getfield 109, 3) := by decide +kernel
theorem dX10_keepsRing_51 : decode cX10_keepsRing 51 = .ok (.iload_n 1, 1) := by decide +kernel
theorem dX10_keepsRing_52 : decode cX10_keepsRing 52 = .ok (.iaload, 1) := by decide +kernel
theorem dX10_keepsRing_53 : decode cX10_keepsRing 53 = .ok (.iastore, 1) := by decide +kernel
theorem dX10_keepsRing_54 : decode cX10_keepsRing 54 = .ok (.iinc 1 1, 3) := by decide +kernel
theorem dX10_keepsRing_57 : decode cX10_keepsRing 57 = .ok (.goto (-23), 3) := by decide +kernel
theorem dX10_keepsRing_60 : decode cX10_keepsRing 60 = .ok (.return_, 1) := by decide +kernel
theorem dX10_refuted_0 : decode cX10_refuted 0 = .ok (.aload_n 0, 1) := by decide +kernel
theorem dX10_refuted_1 : decode cX10_refuted 1 = .ok (.iconst 0, 1) := by decide +kernel
theorem dX10_refuted_2 : decode cX10_refuted 2 = .ok (.putfield 1, 3) := by decide +kernel
theorem dX10_refuted_5 : decode cX10_refuted 5 = .ok (.aload_n 0, 1) := by decide +kernel
theorem dX10_refuted_6 : decode cX10_refuted 6 = .ok (.getfield 115, 3) := by decide +kernel
theorem dX10_refuted_9 : decode cX10_refuted 9 = .ok (.iconst (-1), 1) := by decide +kernel
theorem dX10_refuted_10 : decode cX10_refuted 10 = .ok (.if_icmp .ne 5, 3) := by decide +kernel
theorem dX10_refuted_13 : decode cX10_refuted 13 = .ok (.iconst (-1), 1) := by decide +kernel
theorem dX10_refuted_14 : decode cX10_refuted 14 = .ok (.ireturn, 1) := by decide +kernel
theorem dX10_refuted_15 : decode cX10_refuted 15 = .ok (.iload_n 1, 1) := by decide +kernel
theorem dX10_refuted_16 : decode cX10_refuted 16 = .ok (.tableswitch 54 0 3 #[32, 39, 44, 49], 32) := by decide +kernel
theorem dX10_refuted_48 : decode cX10_refuted 48 = .ok (.aload_n 0, 1) := by decide +kernel
theorem dX10_refuted_49 : decode cX10_refuted 49 = .ok (.getfield 115, 3) := by decide +kernel
theorem dX10_refuted_52 : decode cX10_refuted 52 = .ok (.iconst 1, 1) := by decide +kernel
theorem dX10_refuted_53 : decode cX10_refuted 53 = .ok (.iadd, 1) := by decide +kernel
theorem dX10_refuted_54 : decode cX10_refuted 54 = .ok (.ireturn, 1) := by decide +kernel
theorem dX10_refuted_55 : decode cX10_refuted 55 = .ok (.aload_n 0, 1) := by decide +kernel
theorem dX10_refuted_56 : decode cX10_refuted 56 = .ok (.getfield 221, 3) := by decide +kernel
theorem dX10_refuted_59 : decode cX10_refuted 59 = .ok (.ireturn, 1) := by decide +kernel
theorem dX10_refuted_60 : decode cX10_refuted 60 = .ok (.aload_n 0, 1) := by decide +kernel
theorem dX10_refuted_61 : decode cX10_refuted 61 = .ok (.getfield 215, 3) := by decide +kernel
theorem dX10_refuted_64 : decode cX10_refuted 64 = .ok (.ireturn, 1) := by decide +kernel
theorem dX10_refuted_65 : decode cX10_refuted 65 = .ok (.aload_n 0, 1) := by decide +kernel
theorem dX10_refuted_66 : decode cX10_refuted 66 = .ok (.getfield 218, 3) := by decide +kernel
theorem dX10_refuted_69 : decode cX10_refuted 69 = .ok (.ireturn, 1) := by decide +kernel
theorem dX10_refuted_70 : decode cX10_refuted 70 = .ok (.iconst (-1), 1) := by decide +kernel
theorem dX10_refuted_71 : decode cX10_refuted 71 = .ok (.ireturn, 1) := by decide +kernel
theorem dX10_ring_0 : decode cX10_ring 0 = .ok (.aload_n 0, 1) := by decide +kernel
theorem dX10_ring_1 : decode cX10_ring 1 = .ok (.iconst 0, 1) := by decide +kernel
theorem dX10_ring_2 : decode cX10_ring 2 = .ok (.putfield 1, 3) := by decide +kernel
theorem dX10_ring_5 : decode cX10_ring 5 = .ok (.iload_n 1, 1) := by decide +kernel
theorem dX10_ring_6 : decode cX10_ring 6 = .ok (.iconst 1, 1) := by decide +kernel
theorem dX10_ring_7 : decode cX10_ring 7 = .ok (.aload_n 0, 1) := by decide +kernel
theorem dX10_ring_8 : decode cX10_ring 8 = .ok (.getfield 115, 3) := by decide +kernel
theorem dX10_ring_11 : decode cX10_ring 11 = .ok (.invokestatic 224, 3) := by decide +kernel
theorem dX10_ring_14 : decode cX10_ring 14 = .ok (.ifCond .eq 14, 3) := by decide +kernel
theorem dX10_ring_17 : decode cX10_ring 17 = .ok (.aload_n 0, 1) := by decide +kernel
theorem dX10_ring_18 : decode cX10_ring 18 = .ok (.getfield 112, 3) := by decide +kernel
theorem dX10_ring_21 : decode cX10_ring 21 = .ok (.iload_n 1, 1) := by decide +kernel
theorem dX10_ring_22 : decode cX10_ring 22 = .ok (.iconst 1, 1) := by decide +kernel
theorem dX10_ring_23 : decode cX10_ring 23 = .ok (.isub, 1) := by decide +kernel
theorem dX10_ring_24 : decode cX10_ring 24 = .ok (.iaload, 1) := by decide +kernel
theorem dX10_ring_25 : decode cX10_ring 25 = .ok (.goto 4, 3) := by decide +kernel
theorem dX10_ring_28 : decode cX10_ring 28 = .ok (.iconst (-1), 1) := by decide +kernel
theorem dX10_ring_29 : decode cX10_ring 29 = .ok (.ireturn, 1) := by decide +kernel
theorem dX10_items_0 : decode cX10_items 0 = .ok (.aload_n 0, 1) := by decide +kernel
theorem dX10_items_1 : decode cX10_items 1 = .ok (.getfield 74, 3) := by decide +kernel
theorem dX10_items_4 : decode cX10_items 4 = .ok (.iconst 0, 1) := by decide +kernel
theorem dX10_items_5 : decode cX10_items 5 = .ok (.iaload, 1) := by decide +kernel
theorem dX10_items_6 : decode cX10_items 6 = .ok (.ireturn, 1) := by decide +kernel
theorem dX10_facts_0 : decode cX10_facts 0 = .ok (.aload_n 0, 1) := by decide +kernel
theorem dX10_facts_1 : decode cX10_facts 1 = .ok (.getfield 74, 3) := by decide +kernel
theorem dX10_facts_4 : decode cX10_facts 4 = .ok (.iconst 1, 1) := by decide +kernel
theorem dX10_facts_5 : decode cX10_facts 5 = .ok (.iaload, 1) := by decide +kernel
theorem dX10_facts_6 : decode cX10_facts 6 = .ok (.ireturn, 1) := by decide +kernel
theorem dX10_isItem_0 : decode cX10_isItem 0 = .ok (.iload_n 1, 1) := by decide +kernel
theorem dX10_isItem_1 : decode cX10_isItem 1 = .ok (.iconst 0, 1) := by decide +kernel
theorem dX10_isItem_2 : decode cX10_isItem 2 = .ok (.aload_n 0, 1) := by decide +kernel
theorem dX10_isItem_3 : decode cX10_isItem 3 = .ok (.invokevirtual 228, 3) := by decide +kernel
theorem dX10_isItem_6 : decode cX10_isItem 6 = .ok (.iconst 1, 1) := by decide +kernel
theorem dX10_isItem_7 : decode cX10_isItem 7 = .ok (.isub, 1) := by decide +kernel
theorem dX10_isItem_8 : decode cX10_isItem 8 = .ok (.invokestatic 224, 3) := by decide +kernel
theorem dX10_isItem_11 : decode cX10_isItem 11 = .ok (.ireturn, 1) := by decide +kernel
theorem dX10_areTwo_0 : decode cX10_areTwo 0 = .ok (.aload_n 0, 1) := by decide +kernel
theorem dX10_areTwo_1 : decode cX10_areTwo 1 = .ok (.iload_n 1, 1) := by decide +kernel
theorem dX10_areTwo_2 : decode cX10_areTwo 2 = .ok (.invokevirtual 231, 3) := by decide +kernel
theorem dX10_areTwo_5 : decode cX10_areTwo 5 = .ok (.ifCond .eq 20, 3) := by decide +kernel
theorem dX10_areTwo_8 : decode cX10_areTwo 8 = .ok (.aload_n 0, 1) := by decide +kernel
theorem dX10_areTwo_9 : decode cX10_areTwo 9 = .ok (.iload_n 2, 1) := by decide +kernel
theorem dX10_areTwo_10 : decode cX10_areTwo 10 = .ok (.invokevirtual 231, 3) := by decide +kernel
theorem dX10_areTwo_13 : decode cX10_areTwo 13 = .ok (.ifCond .eq 12, 3) := by decide +kernel
theorem dX10_areTwo_16 : decode cX10_areTwo 16 = .ok (.iload_n 1, 1) := by decide +kernel
theorem dX10_areTwo_17 : decode cX10_areTwo 17 = .ok (.iload_n 2, 1) := by decide +kernel
theorem dX10_areTwo_18 : decode cX10_areTwo 18 = .ok (.if_icmp .eq 7, 3) := by decide +kernel
theorem dX10_areTwo_21 : decode cX10_areTwo 21 = .ok (.iconst 1, 1) := by decide +kernel
theorem dX10_areTwo_22 : decode cX10_areTwo 22 = .ok (.goto 4, 3) := by decide +kernel
theorem dX10_areTwo_25 : decode cX10_areTwo 25 = .ok (.iconst 0, 1) := by decide +kernel
theorem dX10_areTwo_26 : decode cX10_areTwo 26 = .ok (.ireturn, 1) := by decide +kernel
theorem dX10_mayTell_0 : decode cX10_mayTell 0 = .ok (.iload_n 1, 1) := by decide +kernel
theorem dX10_mayTell_1 : decode cX10_mayTell 1 = .ok (.iconst 0, 1) := by decide +kernel
theorem dX10_mayTell_2 : decode cX10_mayTell 2 = .ok (.iconst 1, 1) := by decide +kernel
theorem dX10_mayTell_3 : decode cX10_mayTell 3 = .ok (.invokestatic 224, 3) := by decide +kernel
theorem dX10_mayTell_6 : decode cX10_mayTell 6 = .ok (.ifCond .eq 29, 3) := by decide +kernel
theorem dX10_mayTell_9 : decode cX10_mayTell 9 = .ok (.aload_n 0, 1) := by decide +kernel
theorem dX10_mayTell_10 : decode cX10_mayTell 10 = .ok (.iload_n 2, 1) := by decide +kernel
theorem dX10_mayTell_11 : decode cX10_mayTell 11 = .ok (.iload_n 3, 1) := by decide +kernel
theorem dX10_mayTell_12 : decode cX10_mayTell 12 = .ok (.invokevirtual 234, 3) := by decide +kernel
theorem dX10_mayTell_15 : decode cX10_mayTell 15 = .ok (.ifCond .eq 20, 3) := by decide +kernel
theorem dX10_mayTell_18 : decode cX10_mayTell 18 = .ok (.aload_n 0, 1) := by decide +kernel
theorem dX10_mayTell_19 : decode cX10_mayTell 19 = .ok (.getfield 74, 3) := by decide +kernel
theorem dX10_mayTell_22 : decode cX10_mayTell 22 = .ok (.iload_n 2, 1) := by decide +kernel
theorem dX10_mayTell_23 : decode cX10_mayTell 23 = .ok (.iload_n 3, 1) := by decide +kernel
theorem dX10_mayTell_24 : decode cX10_mayTell 24 = .ok (.invokestatic 142, 3) := by decide +kernel
theorem dX10_mayTell_27 : decode cX10_mayTell 27 = .ok (.iconst (-1), 1) := by decide +kernel
theorem dX10_mayTell_28 : decode cX10_mayTell 28 = .ok (.if_icmp .ne 7, 3) := by decide +kernel
theorem dX10_mayTell_31 : decode cX10_mayTell 31 = .ok (.iconst 1, 1) := by decide +kernel
theorem dX10_mayTell_32 : decode cX10_mayTell 32 = .ok (.goto 4, 3) := by decide +kernel
theorem dX10_mayTell_35 : decode cX10_mayTell 35 = .ok (.iconst 0, 1) := by decide +kernel
theorem dX10_mayTell_36 : decode cX10_mayTell 36 = .ok (.ireturn, 1) := by decide +kernel
theorem dX10_befores_0 : decode cX10_befores 0 = .ok (.iconst 0, 1) := by decide +kernel
theorem dX10_befores_1 : decode cX10_befores 1 = .ok (.istore_n 1, 1) := by decide +kernel
theorem dX10_befores_2 : decode cX10_befores 2 = .ok (.iconst 0, 1) := by decide +kernel
theorem dX10_befores_3 : decode cX10_befores 3 = .ok (.istore_n 2, 1) := by decide +kernel
theorem dX10_befores_4 : decode cX10_befores 4 = .ok (.iload_n 2, 1) := by decide +kernel
theorem dX10_befores_5 : decode cX10_befores 5 = .ok (.aload_n 0, 1) := by decide +kernel
theorem dX10_befores_6 : decode cX10_befores 6 = .ok (.invokevirtual 237, 3) := by decide +kernel
theorem dX10_befores_9 : decode cX10_befores 9 = .ok (.if_icmp .ge 26, 3) := by decide +kernel
theorem dX10_befores_12 : decode cX10_befores 12 = .ok (.aload_n 0, 1) := by decide +kernel
theorem dX10_befores_13 : decode cX10_befores 13 = .ok (.getfield 74, 3) := by decide +kernel
theorem dX10_befores_16 : decode cX10_befores 16 = .ok (.iconst 2, 1) := by decide +kernel
theorem dX10_befores_17 : decode cX10_befores 17 = .ok (.iload_n 2, 1) := by decide +kernel
theorem dX10_befores_18 : decode cX10_befores 18 = .ok (.iadd, 1) := by decide +kernel
theorem dX10_befores_19 : decode cX10_befores 19 = .ok (.iaload, 1) := by decide +kernel
theorem dX10_befores_20 : decode cX10_befores 20 = .ok (.ifCond .ne 9, 3) := by decide +kernel
theorem dX10_befores_23 : decode cX10_befores 23 = .ok (.iload_n 1, 1) := by decide +kernel
theorem dX10_befores_24 : decode cX10_befores 24 = .ok (.iconst 1, 1) := by decide +kernel
theorem dX10_befores_25 : decode cX10_befores 25 = .ok (.iload_n 2, 1) := by decide +kernel
theorem dX10_befores_26 : decode cX10_befores 26 = .ok (.ishl, 1) := by decide +kernel
theorem dX10_befores_27 : decode cX10_befores 27 = .ok (.ior, 1) := by decide +kernel
theorem dX10_befores_28 : decode cX10_befores 28 = .ok (.istore_n 1, 1) := by decide +kernel
theorem dX10_befores_29 : decode cX10_befores 29 = .ok (.iinc 2 1, 3) := by decide +kernel
theorem dX10_befores_32 : decode cX10_befores 32 = .ok (.goto (-28), 3) := by decide +kernel
theorem dX10_befores_35 : decode cX10_befores 35 = .ok (.iload_n 1, 1) := by decide +kernel
theorem dX10_befores_36 : decode cX10_befores 36 = .ok (.ireturn, 1) := by decide +kernel
theorem dX10_now_0 : decode cX10_now 0 = .ok (.aload_n 0, 1) := by decide +kernel
theorem dX10_now_1 : decode cX10_now 1 = .ok (.iconst 0, 1) := by decide +kernel
theorem dX10_now_2 : decode cX10_now 2 = .ok (.putfield 1, 3) := by decide +kernel
theorem dX10_now_5 : decode cX10_now 5 = .ok (.iload_n 1, 1) := by decide +kernel
theorem dX10_now_6 : decode cX10_now 6 = .ok (.tableswitch 72 0 5 #[38, 43, 48, 53, 62, 67], 38) := by decide +kernel
theorem dX10_now_44 : decode cX10_now 44 = .ok (.aload_n 0, 1) := by decide +kernel
theorem dX10_now_45 : decode cX10_now 45 = .ok (.invokevirtual 228, 3) := by decide +kernel
theorem dX10_now_48 : decode cX10_now 48 = .ok (.ireturn, 1) := by decide +kernel
theorem dX10_now_49 : decode cX10_now 49 = .ok (.aload_n 0, 1) := by decide +kernel
theorem dX10_now_50 : decode cX10_now 50 = .ok (.invokevirtual 237, 3) := by decide +kernel
theorem dX10_now_53 : decode cX10_now 53 = .ok (.ireturn, 1) := by decide +kernel
theorem dX10_now_54 : decode cX10_now 54 = .ok (.aload_n 0, 1) := by decide +kernel
theorem dX10_now_55 : decode cX10_now 55 = .ok (.invokevirtual 240, 3) := by decide +kernel
theorem dX10_now_58 : decode cX10_now 58 = .ok (.ireturn, 1) := by decide +kernel
theorem dX10_now_59 : decode cX10_now 59 = .ok (.aload_n 0, 1) := by decide +kernel
theorem dX10_now_60 : decode cX10_now 60 = .ok (.aload_n 0, 1) := by decide +kernel
theorem dX10_now_61 : decode cX10_now 61 = .ok (.getfield 74, 3) := by decide +kernel
theorem dX10_now_64 : decode cX10_now 64 = .ok (.invokevirtual 243, 3) := by decide +kernel
theorem dX10_now_67 : decode cX10_now 67 = .ok (.ireturn, 1) := by decide +kernel
theorem dX10_now_68 : decode cX10_now 68 = .ok (.aload_n 0, 1) := by decide +kernel
theorem dX10_now_69 : decode cX10_now 69 = .ok (.getfield 167, 3) := by decide +kernel
theorem dX10_now_72 : decode cX10_now 72 = .ok (.ireturn, 1) := by decide +kernel
theorem dX10_now_73 : decode cX10_now 73 = .ok (.aload_n 0, 1) := by decide +kernel
theorem dX10_now_74 : decode cX10_now 74 = .ok (.getfield 11, 3) := by decide +kernel
theorem dX10_now_77 : decode cX10_now 77 = .ok (.ireturn, 1) := by decide +kernel
theorem dX10_now_78 : decode cX10_now 78 = .ok (.iconst (-1), 1) := by decide +kernel
theorem dX10_now_79 : decode cX10_now 79 = .ok (.ireturn, 1) := by decide +kernel
theorem dX10_fact_0 : decode cX10_fact 0 = .ok (.aload_n 0, 1) := by decide +kernel
theorem dX10_fact_1 : decode cX10_fact 1 = .ok (.iconst 0, 1) := by decide +kernel
theorem dX10_fact_2 : decode cX10_fact 2 = .ok (.putfield 1, 3) := by decide +kernel
theorem dX10_fact_5 : decode cX10_fact 5 = .ok (.iload_n 1, 1) := by decide +kernel
theorem dX10_fact_6 : decode cX10_fact 6 = .ok (.iconst 0, 1) := by decide +kernel
theorem dX10_fact_7 : decode cX10_fact 7 = .ok (.aload_n 0, 1) := by decide +kernel
theorem dX10_fact_8 : decode cX10_fact 8 = .ok (.invokevirtual 237, 3) := by decide +kernel
theorem dX10_fact_11 : decode cX10_fact 11 = .ok (.iconst 1, 1) := by decide +kernel
theorem dX10_fact_12 : decode cX10_fact 12 = .ok (.isub, 1) := by decide +kernel
theorem dX10_fact_13 : decode cX10_fact 13 = .ok (.invokestatic 224, 3) := by decide +kernel
theorem dX10_fact_16 : decode cX10_fact 16 = .ok (.ifCond .ne 8, 3) := by decide +kernel
theorem dX10_fact_19 : decode cX10_fact 19 = .ok (.aload_n 0, 1) := by decide +kernel
theorem dX10_fact_20 : decode cX10_fact 20 = .ok (.invokevirtual 247, 3) := by decide +kernel
theorem dX10_fact_23 : decode cX10_fact 23 = .ok (.ireturn, 1) := by decide +kernel
theorem dX10_fact_24 : decode cX10_fact 24 = .ok (.iload_n 2, 1) := by decide +kernel
theorem dX10_fact_25 : decode cX10_fact 25 = .ok (.tableswitch 56 0 2 #[27, 36, 46], 27) := by decide +kernel
theorem dX10_fact_52 : decode cX10_fact 52 = .ok (.aload_n 0, 1) := by decide +kernel
theorem dX10_fact_53 : decode cX10_fact 53 = .ok (.getfield 74, 3) := by decide +kernel
theorem dX10_fact_56 : decode cX10_fact 56 = .ok (.iconst 2, 1) := by decide +kernel
theorem dX10_fact_57 : decode cX10_fact 57 = .ok (.iload_n 1, 1) := by decide +kernel
theorem dX10_fact_58 : decode cX10_fact 58 = .ok (.iadd, 1) := by decide +kernel
theorem dX10_fact_59 : decode cX10_fact 59 = .ok (.iaload, 1) := by decide +kernel
theorem dX10_fact_60 : decode cX10_fact 60 = .ok (.ireturn, 1) := by decide +kernel
theorem dX10_fact_61 : decode cX10_fact 61 = .ok (.aload_n 0, 1) := by decide +kernel
theorem dX10_fact_62 : decode cX10_fact 62 = .ok (.getfield 74, 3) := by decide +kernel
theorem dX10_fact_65 : decode cX10_fact 65 = .ok (.bipush 30, 2) := by decide +kernel
theorem dX10_fact_67 : decode cX10_fact 67 = .ok (.iload_n 1, 1) := by decide +kernel
theorem dX10_fact_68 : decode cX10_fact 68 = .ok (.iadd, 1) := by decide +kernel
theorem dX10_fact_69 : decode cX10_fact 69 = .ok (.iaload, 1) := by decide +kernel
theorem dX10_fact_70 : decode cX10_fact 70 = .ok (.ireturn, 1) := by decide +kernel
theorem dX10_fact_71 : decode cX10_fact 71 = .ok (.aload_n 0, 1) := by decide +kernel
theorem dX10_fact_72 : decode cX10_fact 72 = .ok (.getfield 74, 3) := by decide +kernel
theorem dX10_fact_75 : decode cX10_fact 75 = .ok (.bipush 58, 2) := by decide +kernel
theorem dX10_fact_77 : decode cX10_fact 77 = .ok (.iload_n 1, 1) := by decide +kernel
theorem dX10_fact_78 : decode cX10_fact 78 = .ok (.iadd, 1) := by decide +kernel
theorem dX10_fact_79 : decode cX10_fact 79 = .ok (.iaload, 1) := by decide +kernel
theorem dX10_fact_80 : decode cX10_fact 80 = .ok (.ireturn, 1) := by decide +kernel
theorem dX10_fact_81 : decode cX10_fact 81 = .ok (.aload_n 0, 1) := by decide +kernel
theorem dX10_fact_82 : decode cX10_fact 82 = .ok (.invokevirtual 247, 3) := by decide +kernel
theorem dX10_fact_85 : decode cX10_fact 85 = .ok (.ireturn, 1) := by decide +kernel
theorem dX10_about_0 : decode cX10_about 0 = .ok (.aload_n 0, 1) := by decide +kernel
theorem dX10_about_1 : decode cX10_about 1 = .ok (.iconst 0, 1) := by decide +kernel
theorem dX10_about_2 : decode cX10_about 2 = .ok (.putfield 1, 3) := by decide +kernel
theorem dX10_about_5 : decode cX10_about 5 = .ok (.aload_n 0, 1) := by decide +kernel
theorem dX10_about_6 : decode cX10_about 6 = .ok (.iload_n 1, 1) := by decide +kernel
theorem dX10_about_7 : decode cX10_about 7 = .ok (.iload_n 2, 1) := by decide +kernel
theorem dX10_about_8 : decode cX10_about 8 = .ok (.invokevirtual 234, 3) := by decide +kernel
theorem dX10_about_11 : decode cX10_about 11 = .ok (.ifCond .eq 15, 3) := by decide +kernel
theorem dX10_about_14 : decode cX10_about 14 = .ok (.aload_n 0, 1) := by decide +kernel
theorem dX10_about_15 : decode cX10_about 15 = .ok (.getfield 74, 3) := by decide +kernel
theorem dX10_about_18 : decode cX10_about 18 = .ok (.iload_n 1, 1) := by decide +kernel
theorem dX10_about_19 : decode cX10_about 19 = .ok (.iload_n 2, 1) := by decide +kernel
theorem dX10_about_20 : decode cX10_about 20 = .ok (.invokestatic 142, 3) := by decide +kernel
theorem dX10_about_23 : decode cX10_about 23 = .ok (.goto 4, 3) := by decide +kernel
theorem dX10_about_26 : decode cX10_about 26 = .ok (.iconst (-1), 1) := by decide +kernel
theorem dX10_about_27 : decode cX10_about 27 = .ok (.ireturn, 1) := by decide +kernel
theorem dX10_snap_0 : decode cX10_snap 0 = .ok (.aload_n 0, 1) := by decide +kernel
theorem dX10_snap_1 : decode cX10_snap 1 = .ok (.getfield 167, 3) := by decide +kernel
theorem dX10_snap_4 : decode cX10_snap 4 = .ok (.bipush 8, 2) := by decide +kernel
theorem dX10_snap_6 : decode cX10_snap 6 = .ok (.if_icmp .ne 43, 3) := by decide +kernel
theorem dX10_snap_9 : decode cX10_snap 9 = .ok (.iconst 0, 1) := by decide +kernel
theorem dX10_snap_10 : decode cX10_snap 10 = .ok (.istore_n 1, 1) := by decide +kernel
theorem dX10_snap_11 : decode cX10_snap 11 = .ok (.iload_n 1, 1) := by decide +kernel
theorem dX10_snap_12 : decode cX10_snap 12 = .ok (.sipush 602, 3) := by decide +kernel
theorem dX10_snap_15 : decode cX10_snap 15 = .ok (.if_icmp .ge 24, 3) := by decide +kernel
theorem dX10_snap_18 : decode cX10_snap 18 = .ok (.aload_n 0, 1) := by decide +kernel
theorem dX10_snap_19 : decode cX10_snap 19 = .ok (.getfield 83, 3) := by decide +kernel
theorem dX10_snap_22 : decode cX10_snap 22 = .ok (.iload_n 1, 1) := by decide +kernel
theorem dX10_snap_23 : decode cX10_snap 23 = .ok (.aload_n 0, 1) := by decide +kernel
theorem dX10_snap_24 : decode cX10_snap 24 = .ok (.getfield 83, 3) := by decide +kernel
theorem dX10_snap_27 : decode cX10_snap 27 = .ok (.iload_n 1, 1) := by decide +kernel
theorem dX10_snap_28 : decode cX10_snap 28 = .ok (.bipush 86, 2) := by decide +kernel
theorem dX10_snap_30 : decode cX10_snap 30 = .ok (.iadd, 1) := by decide +kernel
theorem dX10_snap_31 : decode cX10_snap 31 = .ok (.iaload, 1) := by decide +kernel
theorem dX10_snap_32 : decode cX10_snap 32 = .ok (.iastore, 1) := by decide +kernel
theorem dX10_snap_33 : decode cX10_snap 33 = .ok (.iinc 1 1, 3) := by decide +kernel
theorem dX10_snap_36 : decode cX10_snap 36 = .ok (.goto (-25), 3) := by decide +kernel
theorem dX10_snap_39 : decode cX10_snap 39 = .ok (.aload_n 0, 1) := by decide +kernel
theorem dX10_snap_40 : decode cX10_snap 40 = .ok (.dup, 1) := by decide +kernel
theorem dX10_snap_41 : decode cX10_snap 41 = .ok (.getfield 167, 3) := by decide +kernel
