theorem dX0_init_0 : decode cX0_init 0 = .ok (.aload_n 0, 1) := by decide +kernel
theorem dX0_init_1 : decode cX0_init 1 = .ok (.invokespecial 3, 3) := by decide +kernel
theorem dX0_init_4 : decode cX0_init 4 = .ok (.aload_n 0, 1) := by decide +kernel
theorem dX0_init_5 : decode cX0_init 5 = .ok (.bipush 28, 2) := by decide +kernel
theorem dX0_init_7 : decode cX0_init 7 = .ok (.newarray .int, 2) := by decide +kernel
theorem dX0_init_9 : decode cX0_init 9 = .ok (.putfield 9, 3) := by decide +kernel
theorem dX0_init_12 : decode cX0_init 12 = .ok (.aload_n 0, 1) := by decide +kernel
theorem dX0_init_13 : decode cX0_init 13 = .ok (.bipush 28, 2) := by decide +kernel
theorem dX0_init_15 : decode cX0_init 15 = .ok (.newarray .int, 2) := by decide +kernel
theorem dX0_init_17 : decode cX0_init 17 = .ok (.putfield 15, 3) := by decide +kernel
theorem dX0_init_20 : decode cX0_init 20 = .ok (.aload_n 0, 1) := by decide +kernel
theorem dX0_init_21 : decode cX0_init 21 = .ok (.bipush 28, 2) := by decide +kernel
theorem dX0_init_23 : decode cX0_init 23 = .ok (.newarray .int, 2) := by decide +kernel
theorem dX0_init_25 : decode cX0_init 25 = .ok (.putfield 18, 3) := by decide +kernel
theorem dX0_init_28 : decode cX0_init 28 = .ok (.return_, 1) := by decide +kernel
theorem dX0_copyFrom_0 : decode cX0_copyFrom 0 = .ok (.aload_n 0, 1) := by decide +kernel
theorem dX0_copyFrom_1 : decode cX0_copyFrom 1 = .ok (.aload_n 1, 1) := by decide +kernel
theorem dX0_copyFrom_2 : decode cX0_copyFrom 2 = .ok (.getfield 21, 3) := by decide +kernel
theorem dX0_copyFrom_5 : decode cX0_copyFrom 5 = .ok (.putfield 21, 3) := by decide +kernel
theorem dX0_copyFrom_8 : decode cX0_copyFrom 8 = .ok (.aload_n 0, 1) := by decide +kernel
theorem dX0_copyFrom_9 : decode cX0_copyFrom 9 = .ok (.aload_n 1, 1) := by decide +kernel
theorem dX0_copyFrom_10 : decode cX0_copyFrom 10 = .ok (.getfield 25, 3) := by decide +kernel
theorem dX0_copyFrom_13 : decode cX0_copyFrom 13 = .ok (.putfield 25, 3) := by decide +kernel
theorem dX0_copyFrom_16 : decode cX0_copyFrom 16 = .ok (.aload_n 1, 1) := by decide +kernel
theorem dX0_copyFrom_17 : decode cX0_copyFrom 17 = .ok (.getfield 9, 3) := by decide +kernel
theorem dX0_copyFrom_20 : decode cX0_copyFrom 20 = .ok (.iconst 0, 1) := by decide +kernel
theorem dX0_copyFrom_21 : decode cX0_copyFrom 21 = .ok (.aload_n 0, 1) := by decide +kernel
theorem dX0_copyFrom_22 : decode cX0_copyFrom 22 = .ok (.getfield 9, 3) := by decide +kernel
theorem dX0_copyFrom_25 : decode cX0_copyFrom 25 = .ok (.iconst 0, 1) := by decide +kernel
theorem dX0_copyFrom_26 : decode cX0_copyFrom 26 = .ok (.aload_n 0, 1) := by decide +kernel
theorem dX0_copyFrom_27 : decode cX0_copyFrom 27 = .ok (.getfield 25, 3) := by decide +kernel
theorem dX0_copyFrom_30 : decode cX0_copyFrom 30 = .ok (.invokestatic 28, 3) := by decide +kernel
theorem dX0_copyFrom_33 : decode cX0_copyFrom 33 = .ok (.aload_n 1, 1) := by decide +kernel
theorem dX0_copyFrom_34 : decode cX0_copyFrom 34 = .ok (.getfield 15, 3) := by decide +kernel
theorem dX0_copyFrom_37 : decode cX0_copyFrom 37 = .ok (.iconst 0, 1) := by decide +kernel
theorem dX0_copyFrom_38 : decode cX0_copyFrom 38 = .ok (.aload_n 0, 1) := by decide +kernel
theorem dX0_copyFrom_39 : decode cX0_copyFrom 39 = .ok (.getfield 15, 3) := by decide +kernel
theorem dX0_copyFrom_42 : decode cX0_copyFrom 42 = .ok (.iconst 0, 1) := by decide +kernel
theorem dX0_copyFrom_43 : decode cX0_copyFrom 43 = .ok (.aload_n 0, 1) := by decide +kernel
theorem dX0_copyFrom_44 : decode cX0_copyFrom 44 = .ok (.getfield 25, 3) := by decide +kernel
theorem dX0_copyFrom_47 : decode cX0_copyFrom 47 = .ok (.invokestatic 28, 3) := by decide +kernel
theorem dX0_copyFrom_50 : decode cX0_copyFrom 50 = .ok (.aload_n 1, 1) := by decide +kernel
theorem dX0_copyFrom_51 : decode cX0_copyFrom 51 = .ok (.getfield 18, 3) := by decide +kernel
theorem dX0_copyFrom_54 : decode cX0_copyFrom 54 = .ok (.iconst 0, 1) := by decide +kernel
theorem dX0_copyFrom_55 : decode cX0_copyFrom 55 = .ok (.aload_n 0, 1) := by decide +kernel
theorem dX0_copyFrom_56 : decode cX0_copyFrom 56 = .ok (.getfield 18, 3) := by decide +kernel
theorem dX0_copyFrom_59 : decode cX0_copyFrom 59 = .ok (.iconst 0, 1) := by decide +kernel
theorem dX0_copyFrom_60 : decode cX0_copyFrom 60 = .ok (.aload_n 0, 1) := by decide +kernel
theorem dX0_copyFrom_61 : decode cX0_copyFrom 61 = .ok (.getfield 25, 3) := by decide +kernel
theorem dX0_copyFrom_64 : decode cX0_copyFrom 64 = .ok (.invokestatic 28, 3) := by decide +kernel
theorem dX0_copyFrom_67 : decode cX0_copyFrom 67 = .ok (.return_, 1) := by decide +kernel
theorem dX0_clear_0 : decode cX0_clear 0 = .ok (.aload_n 0, 1) := by decide +kernel
theorem dX0_clear_1 : decode cX0_clear 1 = .ok (.iconst 0, 1) := by decide +kernel
theorem dX0_clear_2 : decode cX0_clear 2 = .ok (.putfield 21, 3) := by decide +kernel
theorem dX0_clear_5 : decode cX0_clear 5 = .ok (.aload_n 0, 1) := by decide +kernel
theorem dX0_clear_6 : decode cX0_clear 6 = .ok (.iconst 0, 1) := by decide +kernel
theorem dX0_clear_7 : decode cX0_clear 7 = .ok (.putfield 25, 3) := by decide +kernel
theorem dX0_clear_10 : decode cX0_clear 10 = .ok (.return_, 1) := by decide +kernel
theorem dX0_hasItem_0 : decode cX0_hasItem 0 = .ok (.iload_n 1, 1) := by decide +kernel
theorem dX0_hasItem_1 : decode cX0_hasItem 1 = .ok (.ifCond .lt 15, 3) := by decide +kernel
theorem dX0_hasItem_4 : decode cX0_hasItem 4 = .ok (.iload_n 1, 1) := by decide +kernel
theorem dX0_hasItem_5 : decode cX0_hasItem 5 = .ok (.aload_n 0, 1) := by decide +kernel
theorem dX0_hasItem_6 : decode cX0_hasItem 6 = .ok (.getfield 21, 3) := by decide +kernel
theorem dX0_hasItem_9 : decode cX0_hasItem 9 = .ok (.if_icmp .ge 7, 3) := by decide +kernel
theorem dX0_hasItem_12 : decode cX0_hasItem 12 = .ok (.iconst 1, 1) := by decide +kernel
theorem dX0_hasItem_13 : decode cX0_hasItem 13 = .ok (.goto 4, 3) := by decide +kernel
theorem dX0_hasItem_16 : decode cX0_hasItem 16 = .ok (.iconst 0, 1) := by decide +kernel
theorem dX0_hasItem_17 : decode cX0_hasItem 17 = .ok (.ireturn, 1) := by decide +kernel
theorem dX0_hasPair_0 : decode cX0_hasPair 0 = .ok (.aload_n 0, 1) := by decide +kernel
theorem dX0_hasPair_1 : decode cX0_hasPair 1 = .ok (.iload_n 1, 1) := by decide +kernel
theorem dX0_hasPair_2 : decode cX0_hasPair 2 = .ok (.invokevirtual 34, 3) := by decide +kernel
theorem dX0_hasPair_5 : decode cX0_hasPair 5 = .ok (.ifCond .eq 20, 3) := by decide +kernel
theorem dX0_hasPair_8 : decode cX0_hasPair 8 = .ok (.aload_n 0, 1) := by decide +kernel
theorem dX0_hasPair_9 : decode cX0_hasPair 9 = .ok (.iload_n 2, 1) := by decide +kernel
theorem dX0_hasPair_10 : decode cX0_hasPair 10 = .ok (.invokevirtual 34, 3) := by decide +kernel
theorem dX0_hasPair_13 : decode cX0_hasPair 13 = .ok (.ifCond .eq 12, 3) := by decide +kernel
theorem dX0_hasPair_16 : decode cX0_hasPair 16 = .ok (.iload_n 1, 1) := by decide +kernel
theorem dX0_hasPair_17 : decode cX0_hasPair 17 = .ok (.iload_n 2, 1) := by decide +kernel
theorem dX0_hasPair_18 : decode cX0_hasPair 18 = .ok (.if_icmp .eq 7, 3) := by decide +kernel
theorem dX0_hasPair_21 : decode cX0_hasPair 21 = .ok (.iconst 1, 1) := by decide +kernel
theorem dX0_hasPair_22 : decode cX0_hasPair 22 = .ok (.goto 4, 3) := by decide +kernel
theorem dX0_hasPair_25 : decode cX0_hasPair 25 = .ok (.iconst 0, 1) := by decide +kernel
theorem dX0_hasPair_26 : decode cX0_hasPair 26 = .ok (.ireturn, 1) := by decide +kernel
theorem dX0_hasFact_0 : decode cX0_hasFact 0 = .ok (.iload_n 1, 1) := by decide +kernel
theorem dX0_hasFact_1 : decode cX0_hasFact 1 = .ok (.ifCond .lt 15, 3) := by decide +kernel
theorem dX0_hasFact_4 : decode cX0_hasFact 4 = .ok (.iload_n 1, 1) := by decide +kernel
theorem dX0_hasFact_5 : decode cX0_hasFact 5 = .ok (.aload_n 0, 1) := by decide +kernel
theorem dX0_hasFact_6 : decode cX0_hasFact 6 = .ok (.getfield 25, 3) := by decide +kernel
theorem dX0_hasFact_9 : decode cX0_hasFact 9 = .ok (.if_icmp .ge 7, 3) := by decide +kernel
theorem dX0_hasFact_12 : decode cX0_hasFact 12 = .ok (.iconst 1, 1) := by decide +kernel
theorem dX0_hasFact_13 : decode cX0_hasFact 13 = .ok (.goto 4, 3) := by decide +kernel
theorem dX0_hasFact_16 : decode cX0_hasFact 16 = .ok (.iconst 0, 1) := by decide +kernel
theorem dX0_hasFact_17 : decode cX0_hasFact 17 = .ok (.ireturn, 1) := by decide +kernel
theorem dX0_target_0 : decode cX0_target 0 = .ok (.aload_n 0, 1) := by decide +kernel
theorem dX0_target_1 : decode cX0_target 1 = .ok (.getfield 15, 3) := by decide +kernel
theorem dX0_target_4 : decode cX0_target 4 = .ok (.iload_n 1, 1) := by decide +kernel
theorem dX0_target_5 : decode cX0_target 5 = .ok (.iaload, 1) := by decide +kernel
theorem dX0_target_6 : decode cX0_target 6 = .ok (.iload_n 2, 1) := by decide +kernel
theorem dX0_target_7 : decode cX0_target 7 = .ok (.if_icmp .ne 10, 3) := by decide +kernel
theorem dX0_target_10 : decode cX0_target 10 = .ok (.aload_n 0, 1) := by decide +kernel
theorem dX0_target_11 : decode cX0_target 11 = .ok (.getfield 18, 3) := by decide +kernel
theorem dX0_target_14 : decode cX0_target 14 = .ok (.iload_n 1, 1) := by decide +kernel
theorem dX0_target_15 : decode cX0_target 15 = .ok (.iaload, 1) := by decide +kernel
theorem dX0_target_16 : decode cX0_target 16 = .ok (.ireturn, 1) := by decide +kernel
theorem dX0_target_17 : decode cX0_target 17 = .ok (.aload_n 0, 1) := by decide +kernel
theorem dX0_target_18 : decode cX0_target 18 = .ok (.getfield 9, 3) := by decide +kernel
theorem dX0_target_21 : decode cX0_target 21 = .ok (.iload_n 1, 1) := by decide +kernel
theorem dX0_target_22 : decode cX0_target 22 = .ok (.iaload, 1) := by decide +kernel
theorem dX0_target_23 : decode cX0_target 23 = .ok (.iconst 1, 1) := by decide +kernel
theorem dX0_target_24 : decode cX0_target 24 = .ok (.if_icmp .ne 22, 3) := by decide +kernel
theorem dX0_target_27 : decode cX0_target 27 = .ok (.aload_n 0, 1) := by decide +kernel
theorem dX0_target_28 : decode cX0_target 28 = .ok (.getfield 18, 3) := by decide +kernel
theorem dX0_target_31 : decode cX0_target 31 = .ok (.iload_n 1, 1) := by decide +kernel
theorem dX0_target_32 : decode cX0_target 32 = .ok (.iaload, 1) := by decide +kernel
theorem dX0_target_33 : decode cX0_target 33 = .ok (.iload_n 2, 1) := by decide +kernel
theorem dX0_target_34 : decode cX0_target 34 = .ok (.if_icmp .ne 12, 3) := by decide +kernel
theorem dX0_target_37 : decode cX0_target 37 = .ok (.aload_n 0, 1) := by decide +kernel
theorem dX0_target_38 : decode cX0_target 38 = .ok (.getfield 15, 3) := by decide +kernel
theorem dX0_target_41 : decode cX0_target 41 = .ok (.iload_n 1, 1) := by decide +kernel
theorem dX0_target_42 : decode cX0_target 42 = .ok (.iaload, 1) := by decide +kernel
theorem dX0_target_43 : decode cX0_target 43 = .ok (.goto 4, 3) := by decide +kernel
theorem dX0_target_46 : decode cX0_target 46 = .ok (.iconst (-1), 1) := by decide +kernel
theorem dX0_target_47 : decode cX0_target 47 = .ok (.ireturn, 1) := by decide +kernel
theorem dX0_indexOf_0 : decode cX0_indexOf 0 = .ok (.iconst 0, 1) := by decide +kernel
theorem dX0_indexOf_1 : decode cX0_indexOf 1 = .ok (.istore_n 3, 1) := by decide +kernel
theorem dX0_indexOf_2 : decode cX0_indexOf 2 = .ok (.iload_n 3, 1) := by decide +kernel
theorem dX0_indexOf_3 : decode cX0_indexOf 3 = .ok (.aload_n 0, 1) := by decide +kernel
theorem dX0_indexOf_4 : decode cX0_indexOf 4 = .ok (.getfield 25, 3) := by decide +kernel
theorem dX0_indexOf_7 : decode cX0_indexOf 7 = .ok (.if_icmp .ge 51, 3) := by decide +kernel
theorem dX0_indexOf_10 : decode cX0_indexOf 10 = .ok (.aload_n 0, 1) := by decide +kernel
theorem dX0_indexOf_11 : decode cX0_indexOf 11 = .ok (.getfield 15, 3) := by decide +kernel
theorem dX0_indexOf_14 : decode cX0_indexOf 14 = .ok (.iload_n 3, 1) := by decide +kernel
theorem dX0_indexOf_15 : decode cX0_indexOf 15 = .ok (.iaload, 1) := by decide +kernel
theorem dX0_indexOf_16 : decode cX0_indexOf 16 = .ok (.iload_n 1, 1) := by decide +kernel
theorem dX0_indexOf_17 : decode cX0_indexOf 17 = .ok (.if_icmp .ne 13, 3) := by decide +kernel
theorem dX0_indexOf_20 : decode cX0_indexOf 20 = .ok (.aload_n 0, 1) := by decide +kernel
theorem dX0_indexOf_21 : decode cX0_indexOf 21 = .ok (.getfield 18, 3) := by decide +kernel
theorem dX0_indexOf_24 : decode cX0_indexOf 24 = .ok (.iload_n 3, 1) := by decide +kernel
theorem dX0_indexOf_25 : decode cX0_indexOf 25 = .ok (.iaload, 1) := by decide +kernel
theorem dX0_indexOf_26 : decode cX0_indexOf 26 = .ok (.iload_n 2, 1) := by decide +kernel
theorem dX0_indexOf_27 : decode cX0_indexOf 27 = .ok (.if_icmp .eq 23, 3) := by decide +kernel
theorem dX0_indexOf_30 : decode cX0_indexOf 30 = .ok (.aload_n 0, 1) := by decide +kernel
theorem dX0_indexOf_31 : decode cX0_indexOf 31 = .ok (.getfield 15, 3) := by decide +kernel
theorem dX0_indexOf_34 : decode cX0_indexOf 34 = .ok (.iload_n 3, 1) := by decide +kernel
theorem dX0_indexOf_35 : decode cX0_indexOf 35 = .ok (.iaload, 1) := by decide +kernel
theorem dX0_indexOf_36 : decode cX0_indexOf 36 = .ok (.iload_n 2, 1) := by decide +kernel
theorem dX0_indexOf_37 : decode cX0_indexOf 37 = .ok (.if_icmp .ne 15, 3) := by decide +kernel
theorem dX0_indexOf_40 : decode cX0_indexOf 40 = .ok (.aload_n 0, 1) := by decide +kernel
theorem dX0_indexOf_41 : decode cX0_indexOf 41 = .ok (.getfield 18, 3) := by decide +kernel
theorem dX0_indexOf_44 : decode cX0_indexOf 44 = .ok (.iload_n 3, 1) := by decide +kernel
theorem dX0_indexOf_45 : decode cX0_indexOf 45 = .ok (.iaload, 1) := by decide +kernel
theorem dX0_indexOf_46 : decode cX0_indexOf 46 = .ok (.iload_n 1, 1) := by decide +kernel
theorem dX0_indexOf_47 : decode cX0_indexOf 47 = .ok (.if_icmp .ne 5, 3) := by decide +kernel
theorem dX0_indexOf_50 : decode cX0_indexOf 50 = .ok (.iload_n 3, 1) := by decide +kernel
theorem dX0_indexOf_51 : decode cX0_indexOf 51 = .ok (.ireturn, 1) := by decide +kernel
theorem dX0_indexOf_52 : decode cX0_indexOf 52 = .ok (.iinc 3 1, 3) := by decide +kernel
theorem dX0_indexOf_55 : decode cX0_indexOf 55 = .ok (.goto (-53), 3) := by decide +kernel
theorem dX0_indexOf_58 : decode cX0_indexOf 58 = .ok (.iconst (-1), 1) := by decide +kernel
theorem dX0_indexOf_59 : decode cX0_indexOf 59 = .ok (.ireturn, 1) := by decide +kernel
theorem dX0_beforeBits_0 : decode cX0_beforeBits 0 = .ok (.iconst 0, 1) := by decide +kernel
theorem dX0_beforeBits_1 : decode cX0_beforeBits 1 = .ok (.istore_n 1, 1) := by decide +kernel
theorem dX0_beforeBits_2 : decode cX0_beforeBits 2 = .ok (.iconst 0, 1) := by decide +kernel
theorem dX0_beforeBits_3 : decode cX0_beforeBits 3 = .ok (.istore_n 2, 1) := by decide +kernel
theorem dX0_beforeBits_4 : decode cX0_beforeBits 4 = .ok (.iload_n 2, 1) := by decide +kernel
theorem dX0_beforeBits_5 : decode cX0_beforeBits 5 = .ok (.aload_n 0, 1) := by decide +kernel
theorem dX0_beforeBits_6 : decode cX0_beforeBits 6 = .ok (.getfield 25, 3) := by decide +kernel
theorem dX0_beforeBits_9 : decode cX0_beforeBits 9 = .ok (.if_icmp .ge 24, 3) := by decide +kernel
theorem dX0_beforeBits_12 : decode cX0_beforeBits 12 = .ok (.aload_n 0, 1) := by decide +kernel
theorem dX0_beforeBits_13 : decode cX0_beforeBits 13 = .ok (.getfield 9, 3) := by decide +kernel
theorem dX0_beforeBits_16 : decode cX0_beforeBits 16 = .ok (.iload_n 2, 1) := by decide +kernel
theorem dX0_beforeBits_17 : decode cX0_beforeBits 17 = .ok (.iaload, 1) := by decide +kernel
theorem dX0_beforeBits_18 : decode cX0_beforeBits 18 = .ok (.ifCond .ne 9, 3) := by decide +kernel
theorem dX0_beforeBits_21 : decode cX0_beforeBits 21 = .ok (.iload_n 1, 1) := by decide +kernel
theorem dX0_beforeBits_22 : decode cX0_beforeBits 22 = .ok (.iconst 1, 1) := by decide +kernel
theorem dX0_beforeBits_23 : decode cX0_beforeBits 23 = .ok (.iload_n 2, 1) := by decide +kernel
theorem dX0_beforeBits_24 : decode cX0_beforeBits 24 = .ok (.ishl, 1) := by decide +kernel
theorem dX0_beforeBits_25 : decode cX0_beforeBits 25 = .ok (.ior, 1) := by decide +kernel
theorem dX0_beforeBits_26 : decode cX0_beforeBits 26 = .ok (.istore_n 1, 1) := by decide +kernel
theorem dX0_beforeBits_27 : decode cX0_beforeBits 27 = .ok (.iinc 2 1, 3) := by decide +kernel
theorem dX0_beforeBits_30 : decode cX0_beforeBits 30 = .ok (.goto (-26), 3) := by decide +kernel
theorem dX0_beforeBits_33 : decode cX0_beforeBits 33 = .ok (.iload_n 1, 1) := by decide +kernel
theorem dX0_beforeBits_34 : decode cX0_beforeBits 34 = .ok (.ireturn, 1) := by decide +kernel
theorem dX0_add_0 : decode cX0_add 0 = .ok (.aload_n 0, 1) := by decide +kernel
theorem dX0_add_1 : decode cX0_add 1 = .ok (.getfield 25, 3) := by decide +kernel
theorem dX0_add_4 : decode cX0_add 4 = .ok (.bipush 28, 2) := by decide +kernel
theorem dX0_add_6 : decode cX0_add 6 = .ok (.if_icmp .ge 43, 3) := by decide +kernel
theorem dX0_add_9 : decode cX0_add 9 = .ok (.aload_n 0, 1) := by decide +kernel
theorem dX0_add_10 : decode cX0_add 10 = .ok (.getfield 9, 3) := by decide +kernel
theorem dX0_add_13 : decode cX0_add 13 = .ok (.aload_n 0, 1) := by decide +kernel
theorem dX0_add_14 : decode cX0_add 14 = .ok (.getfield 25, 3) := by decide +kernel
theorem dX0_add_17 : decode cX0_add 17 = .ok (.iload_n 1, 1) := by decide +kernel
theorem dX0_add_18 : decode cX0_add 18 = .ok (.iastore, 1) := by decide +kernel
theorem dX0_add_19 : decode cX0_add 19 = .ok (.aload_n 0, 1) := by decide +kernel
theorem dX0_add_20 : decode cX0_add 20 = .ok (.getfield 15, 3) := by decide +kernel
theorem dX0_add_23 : decode cX0_add 23 = .ok (.aload_n 0, 1) := by decide +kernel
theorem dX0_add_24 : decode cX0_add 24 = .ok (.getfield 25, 3) := by decide +kernel
theorem dX0_add_27 : decode cX0_add 27 = .ok (.iload_n 2, 1) := by decide +kernel
theorem dX0_add_28 : decode cX0_add 28 = .ok (.iastore, 1) := by decide +kernel
theorem dX0_add_29 : decode cX0_add 29 = .ok (.aload_n 0, 1) := by decide +kernel
theorem dX0_add_30 : decode cX0_add 30 = .ok (.getfield 18, 3) := by decide +kernel
theorem dX0_add_33 : decode cX0_add 33 = .ok (.aload_n 0, 1) := by decide +kernel
theorem dX0_add_34 : decode cX0_add 34 = .ok (.getfield 25, 3) := by decide +kernel
theorem dX0_add_37 : decode cX0_add 37 = .ok (.iload_n 3, 1) := by decide +kernel
theorem dX0_add_38 : decode cX0_add 38 = .ok (.iastore, 1) := by decide +kernel
theorem dX0_add_39 : decode cX0_add 39 = .ok (.aload_n 0, 1) := by decide +kernel
theorem dX0_add_40 : decode cX0_add 40 = .ok (.dup, 1) := by decide +kernel
theorem dX0_add_41 : decode cX0_add 41 = .ok (.getfield 25, 3) := by decide +kernel
theorem dX0_add_44 : decode cX0_add 44 = .ok (.iconst 1, 1) := by decide +kernel
theorem dX0_add_45 : decode cX0_add 45 = .ok (.iadd, 1) := by decide +kernel
theorem dX0_add_46 : decode cX0_add 46 = .ok (.putfield 25, 3) := by decide +kernel
theorem dX0_add_49 : decode cX0_add 49 = .ok (.return_, 1) := by decide +kernel
theorem dX0_remove_0 : decode cX0_remove 0 = .ok (.aload_n 0, 1) := by decide +kernel
theorem dX0_remove_1 : decode cX0_remove 1 = .ok (.getfield 25, 3) := by decide +kernel
theorem dX0_remove_4 : decode cX0_remove 4 = .ok (.istore_n 2, 1) := by decide +kernel
theorem dX0_remove_5 : decode cX0_remove 5 = .ok (.aload_n 0, 1) := by decide +kernel
theorem dX0_remove_6 : decode cX0_remove 6 = .ok (.iload_n 1, 1) := by decide +kernel
theorem dX0_remove_7 : decode cX0_remove 7 = .ok (.putfield 25, 3) := by decide +kernel
theorem dX0_remove_10 : decode cX0_remove 10 = .ok (.iload_n 1, 1) := by decide +kernel
theorem dX0_remove_11 : decode cX0_remove 11 = .ok (.iconst 1, 1) := by decide +kernel
theorem dX0_remove_12 : decode cX0_remove 12 = .ok (.iadd, 1) := by decide +kernel
theorem dX0_remove_13 : decode cX0_remove 13 = .ok (.istore_n 3, 1) := by decide +kernel
theorem dX0_remove_14 : decode cX0_remove 14 = .ok (.iload_n 3, 1) := by decide +kernel
theorem dX0_remove_15 : decode cX0_remove 15 = .ok (.iload_n 2, 1) := by decide +kernel
theorem dX0_remove_16 : decode cX0_remove 16 = .ok (.if_icmp .ge 31, 3) := by decide +kernel
theorem dX0_remove_19 : decode cX0_remove 19 = .ok (.aload_n 0, 1) := by decide +kernel
theorem dX0_remove_20 : decode cX0_remove 20 = .ok (.aload_n 0, 1) := by decide +kernel
theorem dX0_remove_21 : decode cX0_remove 21 = .ok (.getfield 9, 3) := by decide +kernel
theorem dX0_remove_24 : decode cX0_remove 24 = .ok (.iload_n 3, 1) := by decide +kernel
theorem dX0_remove_25 : decode cX0_remove 25 = .ok (.iaload, 1) := by decide +kernel
theorem dX0_remove_26 : decode cX0_remove 26 = .ok (.aload_n 0, 1) := by decide +kernel
theorem dX0_remove_27 : decode cX0_remove 27 = .ok (.getfield 15, 3) := by decide +kernel
theorem dX0_remove_30 : decode cX0_remove 30 = .ok (.iload_n 3, 1) := by decide +kernel
theorem dX0_remove_31 : decode cX0_remove 31 = .ok (.iaload, 1) := by decide +kernel
theorem dX0_remove_32 : decode cX0_remove 32 = .ok (.aload_n 0, 1) := by decide +kernel
theorem dX0_remove_33 : decode cX0_remove 33 = .ok (.getfield 18, 3) := by decide +kernel
theorem dX0_remove_36 : decode cX0_remove 36 = .ok (.iload_n 3, 1) := by decide +kernel
theorem dX0_remove_37 : decode cX0_remove 37 = .ok (.iaload, 1) := by decide +kernel
theorem dX0_remove_38 : decode cX0_remove 38 = .ok (.invokevirtual 38, 3) := by decide +kernel
theorem dX0_remove_41 : decode cX0_remove 41 = .ok (.iinc 3 1, 3) := by decide +kernel
theorem dX0_remove_44 : decode cX0_remove 44 = .ok (.goto (-30), 3) := by decide +kernel
theorem dX0_remove_47 : decode cX0_remove 47 = .ok (.return_, 1) := by decide +kernel
theorem dX0_removeItem_0 : decode cX0_removeItem 0 = .ok (.aload_n 0, 1) := by decide +kernel
theorem dX0_removeItem_1 : decode cX0_removeItem 1 = .ok (.getfield 25, 3) := by decide +kernel
theorem dX0_removeItem_4 : decode cX0_removeItem 4 = .ok (.istore_n 2, 1) := by decide +kernel
theorem dX0_removeItem_5 : decode cX0_removeItem 5 = .ok (.aload_n 0, 1) := by decide +kernel
theorem dX0_removeItem_6 : decode cX0_removeItem 6 = .ok (.iconst 0, 1) := by decide +kernel
theorem dX0_removeItem_7 : decode cX0_removeItem 7 = .ok (.putfield 25, 3) := by decide +kernel
theorem dX0_removeItem_10 : decode cX0_removeItem 10 = .ok (.iconst 0, 1) := by decide +kernel
theorem dX0_removeItem_11 : decode cX0_removeItem 11 = .ok (.istore_n 3, 1) := by decide +kernel
theorem dX0_removeItem_12 : decode cX0_removeItem 12 = .ok (.iload_n 3, 1) := by decide +kernel
theorem dX0_removeItem_13 : decode cX0_removeItem 13 = .ok (.iload_n 2, 1) := by decide +kernel
theorem dX0_removeItem_14 : decode cX0_removeItem 14 = .ok (.if_icmp .ge 77, 3) := by decide +kernel
theorem dX0_removeItem_17 : decode cX0_removeItem 17 = .ok (.aload_n 0, 1) := by decide +kernel
theorem dX0_removeItem_18 : decode cX0_removeItem 18 = .ok (.getfield 15, 3) := by decide +kernel
theorem dX0_removeItem_21 : decode cX0_removeItem 21 = .ok (.iload_n 3, 1) := by decide +kernel
theorem dX0_removeItem_22 : decode cX0_removeItem 22 = .ok (.iaload, 1) := by decide +kernel
theorem dX0_removeItem_23 : decode cX0_removeItem 23 = .ok (.istore 4, 2) := by decide +kernel
theorem dX0_removeItem_25 : decode cX0_removeItem 25 = .ok (.aload_n 0, 1) := by decide +kernel
theorem dX0_removeItem_26 : decode cX0_removeItem 26 = .ok (.getfield 18, 3) := by decide +kernel
theorem dX0_removeItem_29 : decode cX0_removeItem 29 = .ok (.iload_n 3, 1) := by decide +kernel
theorem dX0_removeItem_30 : decode cX0_removeItem 30 = .ok (.iaload, 1) := by decide +kernel
theorem dX0_removeItem_31 : decode cX0_removeItem 31 = .ok (.istore 5, 2) := by decide +kernel
theorem dX0_removeItem_33 : decode cX0_removeItem 33 = .ok (.iload 4, 2) := by decide +kernel
theorem dX0_removeItem_35 : decode cX0_removeItem 35 = .ok (.iload_n 1, 1) := by decide +kernel
theorem dX0_removeItem_36 : decode cX0_removeItem 36 = .ok (.if_icmp .eq 49, 3) := by decide +kernel
theorem dX0_removeItem_39 : decode cX0_removeItem 39 = .ok (.iload 5, 2) := by decide +kernel
theorem dX0_removeItem_41 : decode cX0_removeItem 41 = .ok (.iload_n 1, 1) := by decide +kernel
theorem dX0_removeItem_42 : decode cX0_removeItem 42 = .ok (.if_icmp .eq 43, 3) := by decide +kernel
theorem dX0_removeItem_45 : decode cX0_removeItem 45 = .ok (.aload_n 0, 1) := by decide +kernel
theorem dX0_removeItem_46 : decode cX0_removeItem 46 = .ok (.aload_n 0, 1) := by decide +kernel
theorem dX0_removeItem_47 : decode cX0_removeItem 47 = .ok (.getfield 9, 3) := by decide +kernel
theorem dX0_removeItem_50 : decode cX0_removeItem 50 = .ok (.iload_n 3, 1) := by decide +kernel
theorem dX0_removeItem_51 : decode cX0_removeItem 51 = .ok (.iaload, 1) := by decide +kernel
theorem dX0_removeItem_52 : decode cX0_removeItem 52 = .ok (.iload 4, 2) := by decide +kernel
theorem dX0_removeItem_54 : decode cX0_removeItem 54 = .ok (.iload_n 1, 1) := by decide +kernel
theorem dX0_removeItem_55 : decode cX0_removeItem 55 = .ok (.if_icmp .le 10, 3) := by decide +kernel
theorem dX0_removeItem_58 : decode cX0_removeItem 58 = .ok (.iload 4, 2) := by decide +kernel
theorem dX0_removeItem_60 : decode cX0_removeItem 60 = .ok (.iconst 1, 1) := by decide +kernel
theorem dX0_removeItem_61 : decode cX0_removeItem 61 = .ok (.isub, 1) := by decide +kernel
theorem dX0_removeItem_62 : decode cX0_removeItem 62 = .ok (.goto 5, 3) := by decide +kernel
theorem dX0_removeItem_65 : decode cX0_removeItem 65 = .ok (.iload 4, 2) := by decide +kernel
theorem dX0_removeItem_67 : decode cX0_removeItem 67 = .ok (.iload 5, 2) := by decide +kernel
theorem dX0_removeItem_69 : decode cX0_removeItem 69 = .ok (.iload_n 1, 1) := by decide +kernel
theorem dX0_removeItem_70 : decode cX0_removeItem 70 = .ok (.if_icmp .le 10, 3) := by decide +kernel
theorem dX0_removeItem_73 : decode cX0_removeItem 73 = .ok (.iload 5, 2) := by decide +kernel
theorem dX0_removeItem_75 : decode cX0_removeItem 75 = .ok (.iconst 1, 1) := by decide +kernel
theorem dX0_removeItem_76 : decode cX0_removeItem 76 = .ok (.isub, 1) := by decide +kernel
theorem dX0_removeItem_77 : decode cX0_removeItem 77 = .ok (.goto 5, 3) := by decide +kernel
theorem dX0_removeItem_80 : decode cX0_removeItem 80 = .ok (.iload 5, 2) := by decide +kernel
theorem dX0_removeItem_82 : decode cX0_removeItem 82 = .ok (.invokevirtual 38, 3) := by decide +kernel
theorem dX0_removeItem_85 : decode cX0_removeItem 85 = .ok (.iinc 3 1, 3) := by decide +kernel
theorem dX0_removeItem_88 : decode cX0_removeItem 88 = .ok (.goto (-76), 3) := by decide +kernel
theorem dX0_removeItem_91 : decode cX0_removeItem 91 = .ok (.aload_n 0, 1) := by decide +kernel
theorem dX0_removeItem_92 : decode cX0_removeItem 92 = .ok (.dup, 1) := by decide +kernel
theorem dX0_removeItem_93 : decode cX0_removeItem 93 = .ok (.getfield 21, 3) := by decide +kernel
theorem dX0_removeItem_96 : decode cX0_removeItem 96 = .ok (.iconst 1, 1) := by decide +kernel
theorem dX0_removeItem_97 : decode cX0_removeItem 97 = .ok (.isub, 1) := by decide +kernel
theorem dX0_removeItem_98 : decode cX0_removeItem 98 = .ok (.putfield 21, 3) := by decide +kernel
theorem dX0_removeItem_101 : decode cX0_removeItem 101 = .ok (.return_, 1) := by decide +kernel
theorem dX0_turnBefores_0 : decode cX0_turnBefores 0 = .ok (.iconst 0, 1) := by decide +kernel
theorem dX0_turnBefores_1 : decode cX0_turnBefores 1 = .ok (.istore_n 1, 1) := by decide +kernel
theorem dX0_turnBefores_2 : decode cX0_turnBefores 2 = .ok (.iconst 0, 1) := by decide +kernel
theorem dX0_turnBefores_3 : decode cX0_turnBefores 3 = .ok (.istore_n 2, 1) := by decide +kernel
theorem dX0_turnBefores_4 : decode cX0_turnBefores 4 = .ok (.iload_n 2, 1) := by decide +kernel
theorem dX0_turnBefores_5 : decode cX0_turnBefores 5 = .ok (.aload_n 0, 1) := by decide +kernel
theorem dX0_turnBefores_6 : decode cX0_turnBefores 6 = .ok (.getfield 25, 3) := by decide +kernel
theorem dX0_turnBefores_9 : decode cX0_turnBefores 9 = .ok (.if_icmp .ge 47, 3) := by decide +kernel
theorem dX0_turnBefores_12 : decode cX0_turnBefores 12 = .ok (.aload_n 0, 1) := by decide +kernel
theorem dX0_turnBefores_13 : decode cX0_turnBefores 13 = .ok (.getfield 9, 3) := by decide +kernel
theorem dX0_turnBefores_16 : decode cX0_turnBefores 16 = .ok (.iload_n 2, 1) := by decide +kernel
theorem dX0_turnBefores_17 : decode cX0_turnBefores 17 = .ok (.iaload, 1) := by decide +kernel
theorem dX0_turnBefores_18 : decode cX0_turnBefores 18 = .ok (.ifCond .ne 32, 3) := by decide +kernel
theorem dX0_turnBefores_21 : decode cX0_turnBefores 21 = .ok (.aload_n 0, 1) := by decide +kernel
theorem dX0_turnBefores_22 : decode cX0_turnBefores 22 = .ok (.getfield 15, 3) := by decide +kernel
theorem dX0_turnBefores_25 : decode cX0_turnBefores 25 = .ok (.iload_n 2, 1) := by decide +kernel
theorem dX0_turnBefores_26 : decode cX0_turnBefores 26 = .ok (.iaload, 1) := by decide +kernel
theorem dX0_turnBefores_27 : decode cX0_turnBefores 27 = .ok (.istore_n 3, 1) := by decide +kernel
theorem dX0_turnBefores_28 : decode cX0_turnBefores 28 = .ok (.aload_n 0, 1) := by decide +kernel
theorem dX0_turnBefores_29 : decode cX0_turnBefores 29 = .ok (.getfield 15, 3) := by decide +kernel
theorem dX0_turnBefores_32 : decode cX0_turnBefores 32 = .ok (.iload_n 2, 1) := by decide +kernel
theorem dX0_turnBefores_33 : decode cX0_turnBefores 33 = .ok (.aload_n 0, 1) := by decide +kernel
theorem dX0_turnBefores_34 : decode cX0_turnBefores 34 = .ok (.getfield 18, 3) := by decide +kernel
theorem dX0_turnBefores_37 : decode cX0_turnBefores 37 = .ok (.iload_n 2, 1) := by decide +kernel
theorem dX0_turnBefores_38 : decode cX0_turnBefores 38 = .ok (.iaload, 1) := by decide +kernel
theorem dX0_turnBefores_39 : decode cX0_turnBefores 39 = .ok (.iastore, 1) := by decide +kernel
theorem dX0_turnBefores_40 : decode cX0_turnBefores 40 = .ok (.aload_n 0, 1) := by decide +kernel
theorem dX0_turnBefores_41 : decode cX0_turnBefores 41 = .ok (.getfield 18, 3) := by decide +kernel
theorem dX0_turnBefores_44 : decode cX0_turnBefores 44 = .ok (.iload_n 2, 1) := by decide +kernel
theorem dX0_turnBefores_45 : decode cX0_turnBefores 45 = .ok (.iload_n 3, 1) := by decide +kernel
theorem dX0_turnBefores_46 : decode cX0_turnBefores 46 = .ok (.iastore, 1) := by decide +kernel
theorem dX0_turnBefores_47 : decode cX0_turnBefores 47 = .ok (.iinc 1 1, 3) := by decide +kernel
theorem dX0_turnBefores_50 : decode cX0_turnBefores 50 = .ok (.iinc 2 1, 3) := by decide +kernel
theorem dX0_turnBefores_53 : decode cX0_turnBefores 53 = .ok (.goto (-49), 3) := by decide +kernel
theorem dX0_turnBefores_56 : decode cX0_turnBefores 56 = .ok (.iload_n 1, 1) := by decide +kernel
theorem dX0_turnBefores_57 : decode cX0_turnBefores 57 = .ok (.ireturn, 1) := by decide +kernel
theorem dX1_init_0 : decode cX1_init 0 = .ok (.aload_n 0, 1) := by decide +kernel
theorem dX1_init_1 : decode cX1_init 1 = .ok (.invokespecial 3, 3) := by decide +kernel
theorem dX1_init_4 : decode cX1_init 4 = .ok (.aload_n 0, 1) := by decide +kernel
theorem dX1_init_5 : decode cX1_init 5 = .ok (.bipush 8, 2) := by decide +kernel
theorem dX1_init_7 : decode cX1_init 7 = .ok (.newarray .int, 2) := by decide +kernel
theorem dX1_init_9 : decode cX1_init 9 = .ok (.putfield 9, 3) := by decide +kernel
theorem dX1_init_12 : decode cX1_init 12 = .ok (.aload_n 0, 1) := by decide +kernel
theorem dX1_init_13 : decode cX1_init 13 = .ok (.bipush 8, 2) := by decide +kernel
theorem dX1_init_15 : decode cX1_init 15 = .ok (.newarray .int, 2) := by decide +kernel
theorem dX1_init_17 : decode cX1_init 17 = .ok (.putfield 15, 3) := by decide +kernel
theorem dX1_init_20 : decode cX1_init 20 = .ok (.aload_n 0, 1) := by decide +kernel
theorem dX1_init_21 : decode cX1_init 21 = .ok (.bipush 8, 2) := by decide +kernel
theorem dX1_init_23 : decode cX1_init 23 = .ok (.newarray .int, 2) := by decide +kernel
theorem dX1_init_25 : decode cX1_init 25 = .ok (.putfield 18, 3) := by decide +kernel
theorem dX1_init_28 : decode cX1_init 28 = .ok (.aload_n 0, 1) := by decide +kernel
theorem dX1_init_29 : decode cX1_init 29 = .ok (.bipush 8, 2) := by decide +kernel
theorem dX1_init_31 : decode cX1_init 31 = .ok (.newarray .int, 2) := by decide +kernel
theorem dX1_init_33 : decode cX1_init 33 = .ok (.putfield 21, 3) := by decide +kernel
theorem dX1_init_36 : decode cX1_init 36 = .ok (.aload_n 0, 1) := by decide +kernel
theorem dX1_init_37 : decode cX1_init 37 = .ok (.new 24, 3) := by decide +kernel
theorem dX1_init_40 : decode cX1_init 40 = .ok (.dup, 1) := by decide +kernel
theorem dX1_init_41 : decode cX1_init 41 = .ok (.invokespecial 26, 3) := by decide +kernel
theorem dX1_init_44 : decode cX1_init 44 = .ok (.putfield 27, 3) := by decide +kernel
theorem dX1_init_47 : decode cX1_init 47 = .ok (.return_, 1) := by decide +kernel
theorem dX1_lay_0 : decode cX1_lay 0 = .ok (.aload_n 0, 1) := by decide +kernel
theorem dX1_lay_1 : decode cX1_lay 1 = .ok (.aload_n 1, 1) := by decide +kernel
theorem dX1_lay_2 : decode cX1_lay 2 = .ok (.getfield 31, 3) := by decide +kernel
theorem dX1_lay_5 : decode cX1_lay 5 = .ok (.putfield 37, 3) := by decide +kernel
theorem dX1_lay_8 : decode cX1_lay 8 = .ok (.aload_n 0, 1) := by decide +kernel
theorem dX1_lay_9 : decode cX1_lay 9 = .ok (.iconst 1, 1) := by decide +kernel
theorem dX1_lay_10 : decode cX1_lay 10 = .ok (.putfield 38, 3) := by decide +kernel
theorem dX1_lay_13 : decode cX1_lay 13 = .ok (.aload_n 0, 1) := by decide +kernel
theorem dX1_lay_14 : decode cX1_lay 14 = .ok (.getfield 38, 3) := by decide +kernel
theorem dX1_lay_17 : decode cX1_lay 17 = .ok (.bipush 60, 2) := by decide +kernel
theorem dX1_lay_19 : decode cX1_lay 19 = .ok (.if_icmp .ge 31, 3) := by decide +kernel
theorem dX1_lay_22 : decode cX1_lay 22 = .ok (.aload_n 0, 1) := by decide +kernel
theorem dX1_lay_23 : decode cX1_lay 23 = .ok (.getfield 27, 3) := by decide +kernel
theorem dX1_lay_26 : decode cX1_lay 26 = .ok (.aload_n 1, 1) := by decide +kernel
theorem dX1_lay_27 : decode cX1_lay 27 = .ok (.aload_n 0, 1) := by decide +kernel
theorem dX1_lay_28 : decode cX1_lay 28 = .ok (.getfield 38, 3) := by decide +kernel
theorem dX1_lay_31 : decode cX1_lay 31 = .ok (.invokevirtual 41, 3) := by decide +kernel
theorem dX1_lay_34 : decode cX1_lay 34 = .ok (.ifCond .ne 16, 3) := by decide +kernel
theorem dX1_lay_37 : decode cX1_lay 37 = .ok (.aload_n 0, 1) := by decide +kernel
theorem dX1_lay_38 : decode cX1_lay 38 = .ok (.dup, 1) := by decide +kernel
theorem dX1_lay_39 : decode cX1_lay 39 = .ok (.getfield 38, 3) := by decide +kernel
theorem dX1_lay_42 : decode cX1_lay 42 = .ok (.iconst 1, 1) := by decide +kernel
theorem dX1_lay_43 : decode cX1_lay 43 = .ok (.iadd, 1) := by decide +kernel
theorem dX1_lay_44 : decode cX1_lay 44 = .ok (.putfield 38, 3) := by decide +kernel
theorem dX1_lay_47 : decode cX1_lay 47 = .ok (.goto (-34), 3) := by decide +kernel
theorem dX1_lay_50 : decode cX1_lay 50 = .ok (.iconst 0, 1) := by decide +kernel
theorem dX1_lay_51 : decode cX1_lay 51 = .ok (.istore_n 2, 1) := by decide +kernel
theorem dX1_lay_52 : decode cX1_lay 52 = .ok (.iload_n 2, 1) := by decide +kernel
theorem dX1_lay_53 : decode cX1_lay 53 = .ok (.aload_n 0, 1) := by decide +kernel
theorem dX1_lay_54 : decode cX1_lay 54 = .ok (.getfield 37, 3) := by decide +kernel
theorem dX1_lay_57 : decode cX1_lay 57 = .ok (.if_icmp .ge 23, 3) := by decide +kernel
theorem dX1_lay_60 : decode cX1_lay 60 = .ok (.aload_n 0, 1) := by decide +kernel
theorem dX1_lay_61 : decode cX1_lay 61 = .ok (.getfield 18, 3) := by decide +kernel
theorem dX1_lay_64 : decode cX1_lay 64 = .ok (.iload_n 2, 1) := by decide +kernel
theorem dX1_lay_65 : decode cX1_lay 65 = .ok (.aload_n 0, 1) := by decide +kernel
theorem dX1_lay_66 : decode cX1_lay 66 = .ok (.getfield 27, 3) := by decide +kernel
theorem dX1_lay_69 : decode cX1_lay 69 = .ok (.iload_n 2, 1) := by decide +kernel
theorem dX1_lay_70 : decode cX1_lay 70 = .ok (.invokevirtual 45, 3) := by decide +kernel
theorem dX1_lay_73 : decode cX1_lay 73 = .ok (.iastore, 1) := by decide +kernel
theorem dX1_lay_74 : decode cX1_lay 74 = .ok (.iinc 2 1, 3) := by decide +kernel
theorem dX1_lay_77 : decode cX1_lay 77 = .ok (.goto (-25), 3) := by decide +kernel
theorem dX1_lay_80 : decode cX1_lay 80 = .ok (.return_, 1) := by decide +kernel
theorem dX1_precedes_0 : decode cX1_precedes 0 = .ok (.aload_n 0, 1) := by decide +kernel
theorem dX1_precedes_1 : decode cX1_precedes 1 = .ok (.getfield 18, 3) := by decide +kernel
theorem dX1_precedes_4 : decode cX1_precedes 4 = .ok (.iload_n 1, 1) := by decide +kernel
theorem dX1_precedes_5 : decode cX1_precedes 5 = .ok (.iaload, 1) := by decide +kernel
theorem dX1_precedes_6 : decode cX1_precedes 6 = .ok (.aload_n 0, 1) := by decide +kernel
theorem dX1_precedes_7 : decode cX1_precedes 7 = .ok (.getfield 38, 3) := by decide +kernel
theorem dX1_precedes_10 : decode cX1_precedes 10 = .ok (.iadd, 1) := by decide +kernel
theorem dX1_precedes_11 : decode cX1_precedes 11 = .ok (.aload_n 0, 1) := by decide +kernel
theorem dX1_precedes_12 : decode cX1_precedes 12 = .ok (.getfield 18, 3) := by decide +kernel
theorem dX1_precedes_15 : decode cX1_precedes 15 = .ok (.iload_n 2, 1) := by decide +kernel
theorem dX1_precedes_16 : decode cX1_precedes 16 = .ok (.iaload, 1) := by decide +kernel
theorem dX1_precedes_17 : decode cX1_precedes 17 = .ok (.if_icmp .gt 7, 3) := by decide +kernel
theorem dX1_precedes_20 : decode cX1_precedes 20 = .ok (.iconst 1, 1) := by decide +kernel
theorem dX1_precedes_21 : decode cX1_precedes 21 = .ok (.goto 4, 3) := by decide +kernel
theorem dX1_precedes_24 : decode cX1_precedes 24 = .ok (.iconst 0, 1) := by decide +kernel
theorem dX1_precedes_25 : decode cX1_precedes 25 = .ok (.ireturn, 1) := by decide +kernel
theorem dX1_greatestSet_0 : decode cX1_greatestSet 0 = .ok (.iconst 0, 1) := by decide +kernel
theorem dX1_greatestSet_1 : decode cX1_greatestSet 1 = .ok (.istore_n 2, 1) := by decide +kernel
theorem dX1_greatestSet_2 : decode cX1_greatestSet 2 = .ok (.iconst 1, 1) := by decide +kernel
theorem dX1_greatestSet_3 : decode cX1_greatestSet 3 = .ok (.istore_n 3, 1) := by decide +kernel
theorem dX1_greatestSet_4 : decode cX1_greatestSet 4 = .ok (.iload_n 3, 1) := by decide +kernel
theorem dX1_greatestSet_5 : decode cX1_greatestSet 5 = .ok (.iconst 1, 1) := by decide +kernel
theorem dX1_greatestSet_6 : decode cX1_greatestSet 6 = .ok (.aload_n 0, 1) := by decide +kernel
theorem dX1_greatestSet_7 : decode cX1_greatestSet 7 = .ok (.getfield 37, 3) := by decide +kernel
theorem dX1_greatestSet_10 : decode cX1_greatestSet 10 = .ok (.ishl, 1) := by decide +kernel
theorem dX1_greatestSet_11 : decode cX1_greatestSet 11 = .ok (.if_icmp .ge 31, 3) := by decide +kernel
theorem dX1_greatestSet_14 : decode cX1_greatestSet 14 = .ok (.iload_n 3, 1) := by decide +kernel
theorem dX1_greatestSet_15 : decode cX1_greatestSet 15 = .ok (.invokestatic 49, 3) := by decide +kernel
theorem dX1_greatestSet_18 : decode cX1_greatestSet 18 = .ok (.iload_n 2, 1) := by decide +kernel
theorem dX1_greatestSet_19 : decode cX1_greatestSet 19 = .ok (.invokestatic 49, 3) := by decide +kernel
theorem dX1_greatestSet_22 : decode cX1_greatestSet 22 = .ok (.if_icmp .le 14, 3) := by decide +kernel
theorem dX1_greatestSet_25 : decode cX1_greatestSet 25 = .ok (.aload_n 0, 1) := by decide +kernel
theorem dX1_greatestSet_26 : decode cX1_greatestSet 26 = .ok (.iload_n 3, 1) := by decide +kernel
theorem dX1_greatestSet_27 : decode cX1_greatestSet 27 = .ok (.iload_n 1, 1) := by decide +kernel
theorem dX1_greatestSet_28 : decode cX1_greatestSet 28 = .ok (.invokevirtual 54, 3) := by decide +kernel
theorem dX1_greatestSet_31 : decode cX1_greatestSet 31 = .ok (.ifCond .eq 5, 3) := by decide +kernel
theorem dX1_greatestSet_34 : decode cX1_greatestSet 34 = .ok (.iload_n 3, 1) := by decide +kernel
theorem dX1_greatestSet_35 : decode cX1_greatestSet 35 = .ok (.istore_n 2, 1) := by decide +kernel
theorem dX1_greatestSet_36 : decode cX1_greatestSet 36 = .ok (.iinc 3 1, 3) := by decide +kernel
theorem dX1_greatestSet_39 : decode cX1_greatestSet 39 = .ok (.goto (-35), 3) := by decide +kernel
theorem dX1_greatestSet_42 : decode cX1_greatestSet 42 = .ok (.iload_n 2, 1) := by decide +kernel
theorem dX1_greatestSet_43 : decode cX1_greatestSet 43 = .ok (.ireturn, 1) := by decide +kernel
theorem dX1_isUniform_0 : decode cX1_isUniform 0 = .ok (.iconst 0, 1) := by decide +kernel
theorem dX1_isUniform_1 : decode cX1_isUniform 1 = .ok (.istore_n 3, 1) := by decide +kernel
theorem dX1_isUniform_2 : decode cX1_isUniform 2 = .ok (.iload_n 3, 1) := by decide +kernel
theorem dX1_isUniform_3 : decode cX1_isUniform 3 = .ok (.aload_n 0, 1) := by decide +kernel
theorem dX1_isUniform_4 : decode cX1_isUniform 4 = .ok (.getfield 37, 3) := by decide +kernel
theorem dX1_isUniform_7 : decode cX1_isUniform 7 = .ok (.if_icmp .ge 91, 3) := by decide +kernel
theorem dX1_isUniform_10 : decode cX1_isUniform 10 = .ok (.iload_n 3, 1) := by decide +kernel
theorem dX1_isUniform_11 : decode cX1_isUniform 11 = .ok (.iconst 1, 1) := by decide +kernel
theorem dX1_isUniform_12 : decode cX1_isUniform 12 = .ok (.iadd, 1) := by decide +kernel
theorem dX1_isUniform_13 : decode cX1_isUniform 13 = .ok (.istore 4, 2) := by decide +kernel
theorem dX1_isUniform_15 : decode cX1_isUniform 15 = .ok (.iload 4, 2) := by decide +kernel
theorem dX1_isUniform_17 : decode cX1_isUniform 17 = .ok (.aload_n 0, 1) := by decide +kernel
theorem dX1_isUniform_18 : decode cX1_isUniform 18 = .ok (.getfield 37, 3) := by decide +kernel
theorem dX1_isUniform_21 : decode cX1_isUniform 21 = .ok (.if_icmp .ge 71, 3) := by decide +kernel
theorem dX1_isUniform_24 : decode cX1_isUniform 24 = .ok (.iload_n 1, 1) := by decide +kernel
theorem dX1_isUniform_25 : decode cX1_isUniform 25 = .ok (.iload_n 3, 1) := by decide +kernel
theorem dX1_isUniform_26 : decode cX1_isUniform 26 = .ok (.ishr, 1) := by decide +kernel
theorem dX1_isUniform_27 : decode cX1_isUniform 27 = .ok (.iconst 1, 1) := by decide +kernel
theorem dX1_isUniform_28 : decode cX1_isUniform 28 = .ok (.iand, 1) := by decide +kernel
theorem dX1_isUniform_29 : decode cX1_isUniform 29 = .ok (.iconst 1, 1) := by decide +kernel
theorem dX1_isUniform_30 : decode cX1_isUniform 30 = .ok (.if_icmp .ne 17, 3) := by decide +kernel
theorem dX1_isUniform_33 : decode cX1_isUniform 33 = .ok (.iload_n 1, 1) := by decide +kernel
theorem dX1_isUniform_34 : decode cX1_isUniform 34 = .ok (.iload 4, 2) := by decide +kernel
theorem dX1_isUniform_36 : decode cX1_isUniform 36 = .ok (.ishr, 1) := by decide +kernel
theorem dX1_isUniform_37 : decode cX1_isUniform 37 = .ok (.iconst 1, 1) := by decide +kernel
theorem dX1_isUniform_38 : decode cX1_isUniform 38 = .ok (.iand, 1) := by decide +kernel
theorem dX1_isUniform_39 : decode cX1_isUniform 39 = .ok (.iconst 1, 1) := by decide +kernel
theorem dX1_isUniform_40 : decode cX1_isUniform 40 = .ok (.if_icmp .ne 7, 3) := by decide +kernel
theorem dX1_isUniform_43 : decode cX1_isUniform 43 = .ok (.iconst 1, 1) := by decide +kernel
theorem dX1_isUniform_44 : decode cX1_isUniform 44 = .ok (.goto 4, 3) := by decide +kernel
theorem dX1_isUniform_47 : decode cX1_isUniform 47 = .ok (.iconst 0, 1) := by decide +kernel
theorem dX1_isUniform_48 : decode cX1_isUniform 48 = .ok (.istore 5, 2) := by decide +kernel
theorem dX1_isUniform_50 : decode cX1_isUniform 50 = .ok (.iload 5, 2) := by decide +kernel
theorem dX1_isUniform_52 : decode cX1_isUniform 52 = .ok (.ifCond .eq 34, 3) := by decide +kernel
theorem dX1_isUniform_55 : decode cX1_isUniform 55 = .ok (.aload_n 0, 1) := by decide +kernel
theorem dX1_isUniform_56 : decode cX1_isUniform 56 = .ok (.iload_n 3, 1) := by decide +kernel
theorem dX1_isUniform_57 : decode cX1_isUniform 57 = .ok (.iload 4, 2) := by decide +kernel
theorem dX1_isUniform_59 : decode cX1_isUniform 59 = .ok (.invokevirtual 58, 3) := by decide +kernel
theorem dX1_isUniform_62 : decode cX1_isUniform 62 = .ok (.ifCond .ne 13, 3) := by decide +kernel
theorem dX1_isUniform_65 : decode cX1_isUniform 65 = .ok (.aload_n 0, 1) := by decide +kernel
theorem dX1_isUniform_66 : decode cX1_isUniform 66 = .ok (.iload 4, 2) := by decide +kernel
theorem dX1_isUniform_68 : decode cX1_isUniform 68 = .ok (.iload_n 3, 1) := by decide +kernel
theorem dX1_isUniform_69 : decode cX1_isUniform 69 = .ok (.invokevirtual 58, 3) := by decide +kernel
theorem dX1_isUniform_72 : decode cX1_isUniform 72 = .ok (.ifCond .eq 7, 3) := by decide +kernel
theorem dX1_isUniform_75 : decode cX1_isUniform 75 = .ok (.iconst 1, 1) := by decide +kernel
theorem dX1_isUniform_76 : decode cX1_isUniform 76 = .ok (.goto 4, 3) := by decide +kernel
theorem dX1_isUniform_79 : decode cX1_isUniform 79 = .ok (.iconst 0, 1) := by decide +kernel
theorem dX1_isUniform_80 : decode cX1_isUniform 80 = .ok (.iload_n 2, 1) := by decide +kernel
theorem dX1_isUniform_81 : decode cX1_isUniform 81 = .ok (.if_icmp .eq 5, 3) := by decide +kernel
theorem dX1_isUniform_84 : decode cX1_isUniform 84 = .ok (.iconst 0, 1) := by decide +kernel
theorem dX1_isUniform_85 : decode cX1_isUniform 85 = .ok (.ireturn, 1) := by decide +kernel
theorem dX1_isUniform_86 : decode cX1_isUniform 86 = .ok (.iinc 4 1, 3) := by decide +kernel
theorem dX1_isUniform_89 : decode cX1_isUniform 89 = .ok (.goto (-74), 3) := by decide +kernel
theorem dX1_isUniform_92 : decode cX1_isUniform 92 = .ok (.iinc 3 1, 3) := by decide +kernel
theorem dX1_isUniform_95 : decode cX1_isUniform 95 = .ok (.goto (-93), 3) := by decide +kernel
theorem dX1_isUniform_98 : decode cX1_isUniform 98 = .ok (.iconst 1, 1) := by decide +kernel
theorem dX1_isUniform_99 : decode cX1_isUniform 99 = .ok (.ireturn, 1) := by decide +kernel
theorem dX1_fillRooms_0 : decode cX1_fillRooms 0 = .ok (.aload_n 0, 1) := by decide +kernel
theorem dX1_fillRooms_1 : decode cX1_fillRooms 1 = .ok (.iconst 0, 1) := by decide +kernel
theorem dX1_fillRooms_2 : decode cX1_fillRooms 2 = .ok (.putfield 62, 3) := by decide +kernel
theorem dX1_fillRooms_5 : decode cX1_fillRooms 5 = .ok (.aload_n 0, 1) := by decide +kernel
theorem dX1_fillRooms_6 : decode cX1_fillRooms 6 = .ok (.invokevirtual 65, 3) := by decide +kernel
theorem dX1_fillRooms_9 : decode cX1_fillRooms 9 = .ok (.iconst 0, 1) := by decide +kernel
theorem dX1_fillRooms_10 : decode cX1_fillRooms 10 = .ok (.istore_n 1, 1) := by decide +kernel
theorem dX1_fillRooms_11 : decode cX1_fillRooms 11 = .ok (.iload_n 1, 1) := by decide +kernel
theorem dX1_fillRooms_12 : decode cX1_fillRooms 12 = .ok (.aload_n 0, 1) := by decide +kernel
theorem dX1_fillRooms_13 : decode cX1_fillRooms 13 = .ok (.getfield 37, 3) := by decide +kernel
theorem dX1_fillRooms_16 : decode cX1_fillRooms 16 = .ok (.if_icmp .ge 60, 3) := by decide +kernel
theorem dX1_fillRooms_19 : decode cX1_fillRooms 19 = .ok (.iconst 0, 1) := by decide +kernel
theorem dX1_fillRooms_20 : decode cX1_fillRooms 20 = .ok (.istore_n 2, 1) := by decide +kernel
theorem dX1_fillRooms_21 : decode cX1_fillRooms 21 = .ok (.iload_n 2, 1) := by decide +kernel
theorem dX1_fillRooms_22 : decode cX1_fillRooms 22 = .ok (.aload_n 0, 1) := by decide +kernel
theorem dX1_fillRooms_23 : decode cX1_fillRooms 23 = .ok (.getfield 62, 3) := by decide +kernel
theorem dX1_fillRooms_26 : decode cX1_fillRooms 26 = .ok (.if_icmp .ge 18, 3) := by decide +kernel
theorem dX1_fillRooms_29 : decode cX1_fillRooms 29 = .ok (.aload_n 0, 1) := by decide +kernel
theorem dX1_fillRooms_30 : decode cX1_fillRooms 30 = .ok (.iload_n 2, 1) := by decide +kernel
theorem dX1_fillRooms_31 : decode cX1_fillRooms 31 = .ok (.iload_n 1, 1) := by decide +kernel
theorem dX1_fillRooms_32 : decode cX1_fillRooms 32 = .ok (.invokevirtual 68, 3) := by decide +kernel
theorem dX1_fillRooms_35 : decode cX1_fillRooms 35 = .ok (.ifCond .ne 9, 3) := by decide +kernel
theorem dX1_fillRooms_38 : decode cX1_fillRooms 38 = .ok (.iinc 2 1, 3) := by decide +kernel
theorem dX1_fillRooms_41 : decode cX1_fillRooms 41 = .ok (.goto (-20), 3) := by decide +kernel
theorem dX1_fillRooms_44 : decode cX1_fillRooms 44 = .ok (.aload_n 0, 1) := by decide +kernel
theorem dX1_fillRooms_45 : decode cX1_fillRooms 45 = .ok (.getfield 9, 3) := by decide +kernel
theorem dX1_fillRooms_48 : decode cX1_fillRooms 48 = .ok (.aload_n 0, 1) := by decide +kernel
theorem dX1_fillRooms_49 : decode cX1_fillRooms 49 = .ok (.getfield 21, 3) := by decide +kernel
theorem dX1_fillRooms_52 : decode cX1_fillRooms 52 = .ok (.iload_n 1, 1) := by decide +kernel
theorem dX1_fillRooms_53 : decode cX1_fillRooms 53 = .ok (.iaload, 1) := by decide +kernel
theorem dX1_fillRooms_54 : decode cX1_fillRooms 54 = .ok (.iload_n 2, 1) := by decide +kernel
theorem dX1_fillRooms_55 : decode cX1_fillRooms 55 = .ok (.iastore, 1) := by decide +kernel
theorem dX1_fillRooms_56 : decode cX1_fillRooms 56 = .ok (.aload_n 0, 1) := by decide +kernel
theorem dX1_fillRooms_57 : decode cX1_fillRooms 57 = .ok (.aload_n 0, 1) := by decide +kernel
theorem dX1_fillRooms_58 : decode cX1_fillRooms 58 = .ok (.getfield 62, 3) := by decide +kernel
theorem dX1_fillRooms_61 : decode cX1_fillRooms 61 = .ok (.iload_n 2, 1) := by decide +kernel
theorem dX1_fillRooms_62 : decode cX1_fillRooms 62 = .ok (.iconst 1, 1) := by decide +kernel
theorem dX1_fillRooms_63 : decode cX1_fillRooms 63 = .ok (.iadd, 1) := by decide +kernel
theorem dX1_fillRooms_64 : decode cX1_fillRooms 64 = .ok (.invokestatic 71, 3) := by decide +kernel
theorem dX1_fillRooms_67 : decode cX1_fillRooms 67 = .ok (.putfield 62, 3) := by decide +kernel
theorem dX1_fillRooms_70 : decode cX1_fillRooms 70 = .ok (.iinc 1 1, 3) := by decide +kernel
theorem dX1_fillRooms_73 : decode cX1_fillRooms 73 = .ok (.goto (-62), 3) := by decide +kernel
theorem dX1_fillRooms_76 : decode cX1_fillRooms 76 = .ok (.return_, 1) := by decide +kernel
theorem dX1_isFree_0 : decode cX1_isFree 0 = .ok (.iconst 0, 1) := by decide +kernel
theorem dX1_isFree_1 : decode cX1_isFree 1 = .ok (.istore_n 3, 1) := by decide +kernel
theorem dX1_isFree_2 : decode cX1_isFree 2 = .ok (.iload_n 3, 1) := by decide +kernel
theorem dX1_isFree_3 : decode cX1_isFree 3 = .ok (.iload_n 2, 1) := by decide +kernel
theorem dX1_isFree_4 : decode cX1_isFree 4 = .ok (.if_icmp .ge 45, 3) := by decide +kernel
theorem dX1_isFree_7 : decode cX1_isFree 7 = .ok (.aload_n 0, 1) := by decide +kernel
theorem dX1_isFree_8 : decode cX1_isFree 8 = .ok (.getfield 9, 3) := by decide +kernel
theorem dX1_isFree_11 : decode cX1_isFree 11 = .ok (.aload_n 0, 1) := by decide +kernel
theorem dX1_isFree_12 : decode cX1_isFree 12 = .ok (.getfield 21, 3) := by decide +kernel
theorem dX1_isFree_15 : decode cX1_isFree 15 = .ok (.iload_n 3, 1) := by decide +kernel
theorem dX1_isFree_16 : decode cX1_isFree 16 = .ok (.iaload, 1) := by decide +kernel
theorem dX1_isFree_17 : decode cX1_isFree 17 = .ok (.iaload, 1) := by decide +kernel
theorem dX1_isFree_18 : decode cX1_isFree 18 = .ok (.iload_n 1, 1) := by decide +kernel
theorem dX1_isFree_19 : decode cX1_isFree 19 = .ok (.if_icmp .ne 24, 3) := by decide +kernel
theorem dX1_isFree_22 : decode cX1_isFree 22 = .ok (.aload_n 0, 1) := by decide +kernel
theorem dX1_isFree_23 : decode cX1_isFree 23 = .ok (.aload_n 0, 1) := by decide +kernel
theorem dX1_isFree_24 : decode cX1_isFree 24 = .ok (.getfield 21, 3) := by decide +kernel
theorem dX1_isFree_27 : decode cX1_isFree 27 = .ok (.iload_n 3, 1) := by decide +kernel
theorem dX1_isFree_28 : decode cX1_isFree 28 = .ok (.iaload, 1) := by decide +kernel
theorem dX1_isFree_29 : decode cX1_isFree 29 = .ok (.aload_n 0, 1) := by decide +kernel
theorem dX1_isFree_30 : decode cX1_isFree 30 = .ok (.getfield 21, 3) := by decide +kernel
theorem dX1_isFree_33 : decode cX1_isFree 33 = .ok (.iload_n 2, 1) := by decide +kernel
theorem dX1_isFree_34 : decode cX1_isFree 34 = .ok (.iaload, 1) := by decide +kernel
theorem dX1_isFree_35 : decode cX1_isFree 35 = .ok (.invokevirtual 58, 3) := by decide +kernel
theorem dX1_isFree_38 : decode cX1_isFree 38 = .ok (.ifCond .ne 5, 3) := by decide +kernel
theorem dX1_isFree_41 : decode cX1_isFree 41 = .ok (.iconst 0, 1) := by decide +kernel
theorem dX1_isFree_42 : decode cX1_isFree 42 = .ok (.ireturn, 1) := by decide +kernel
theorem dX1_isFree_43 : decode cX1_isFree 43 = .ok (.iinc 3 1, 3) := by decide +kernel
theorem dX1_isFree_46 : decode cX1_isFree 46 = .ok (.goto (-44), 3) := by decide +kernel
theorem dX1_isFree_49 : decode cX1_isFree 49 = .ok (.iconst 1, 1) := by decide +kernel
theorem dX1_isFree_50 : decode cX1_isFree 50 = .ok (.ireturn, 1) := by decide +kernel
theorem dX1_fillQueue_0 : decode cX1_fillQueue 0 = .ok (.iconst 0, 1) := by decide +kernel
theorem dX1_fillQueue_1 : decode cX1_fillQueue 1 = .ok (.istore_n 1, 1) := by decide +kernel
theorem dX1_fillQueue_2 : decode cX1_fillQueue 2 = .ok (.iload_n 1, 1) := by decide +kernel
theorem dX1_fillQueue_3 : decode cX1_fillQueue 3 = .ok (.aload_n 0, 1) := by decide +kernel
theorem dX1_fillQueue_4 : decode cX1_fillQueue 4 = .ok (.getfield 37, 3) := by decide +kernel
theorem dX1_fillQueue_7 : decode cX1_fillQueue 7 = .ok (.if_icmp .ge 64, 3) := by decide +kernel
theorem dX1_fillQueue_10 : decode cX1_fillQueue 10 = .ok (.iload_n 1, 1) := by decide +kernel
theorem dX1_fillQueue_11 : decode cX1_fillQueue 11 = .ok (.istore_n 2, 1) := by decide +kernel
theorem dX1_fillQueue_12 : decode cX1_fillQueue 12 = .ok (.iload_n 2, 1) := by decide +kernel
theorem dX1_fillQueue_13 : decode cX1_fillQueue 13 = .ok (.ifCond .le 45, 3) := by decide +kernel
theorem dX1_fillQueue_16 : decode cX1_fillQueue 16 = .ok (.aload_n 0, 1) := by decide +kernel
theorem dX1_fillQueue_17 : decode cX1_fillQueue 17 = .ok (.getfield 18, 3) := by decide +kernel
theorem dX1_fillQueue_20 : decode cX1_fillQueue 20 = .ok (.aload_n 0, 1) := by decide +kernel
theorem dX1_fillQueue_21 : decode cX1_fillQueue 21 = .ok (.getfield 21, 3) := by decide +kernel
theorem dX1_fillQueue_24 : decode cX1_fillQueue 24 = .ok (.iload_n 2, 1) := by decide +kernel
theorem dX1_fillQueue_25 : decode cX1_fillQueue 25 = .ok (.iconst 1, 1) := by decide +kernel
theorem dX1_fillQueue_26 : decode cX1_fillQueue 26 = .ok (.isub, 1) := by decide +kernel
theorem dX1_fillQueue_27 : decode cX1_fillQueue 27 = .ok (.iaload, 1) := by decide +kernel
theorem dX1_fillQueue_28 : decode cX1_fillQueue 28 = .ok (.iaload, 1) := by decide +kernel
theorem dX1_fillQueue_29 : decode cX1_fillQueue 29 = .ok (.aload_n 0, 1) := by decide +kernel
theorem dX1_fillQueue_30 : decode cX1_fillQueue 30 = .ok (.getfield 18, 3) := by decide +kernel
theorem dX1_fillQueue_33 : decode cX1_fillQueue 33 = .ok (.iload_n 1, 1) := by decide +kernel
theorem dX1_fillQueue_34 : decode cX1_fillQueue 34 = .ok (.iaload, 1) := by decide +kernel
theorem dX1_fillQueue_35 : decode cX1_fillQueue 35 = .ok (.if_icmp .le 23, 3) := by decide +kernel
theorem dX1_fillQueue_38 : decode cX1_fillQueue 38 = .ok (.aload_n 0, 1) := by decide +kernel
theorem dX1_fillQueue_39 : decode cX1_fillQueue 39 = .ok (.getfield 21, 3) := by decide +kernel
theorem dX1_fillQueue_42 : decode cX1_fillQueue 42 = .ok (.iload_n 2, 1) := by decide +kernel
theorem dX1_fillQueue_43 : decode cX1_fillQueue 43 = .ok (.aload_n 0, 1) := by decide +kernel
theorem dX1_fillQueue_44 : decode cX1_fillQueue 44 = .ok (.getfield 21, 3) := by decide +kernel
theorem dX1_fillQueue_47 : decode cX1_fillQueue 47 = .ok (.iload_n 2, 1) := by decide +kernel
theorem dX1_fillQueue_48 : decode cX1_fillQueue 48 = .ok (.iconst 1, 1) := by decide +kernel
theorem dX1_fillQueue_49 : decode cX1_fillQueue 49 = .ok (.isub, 1) := by decide +kernel
theorem dX1_fillQueue_50 : decode cX1_fillQueue 50 = .ok (.iaload, 1) := by decide +kernel
theorem dX1_fillQueue_51 : decode cX1_fillQueue 51 = .ok (.iastore, 1) := by decide +kernel
theorem dX1_fillQueue_52 : decode cX1_fillQueue 52 = .ok (.iinc 2 (-1), 3) := by decide +kernel
theorem dX1_fillQueue_55 : decode cX1_fillQueue 55 = .ok (.goto (-43), 3) := by decide +kernel
theorem dX1_fillQueue_58 : decode cX1_fillQueue 58 = .ok (.aload_n 0, 1) := by decide +kernel
theorem dX1_fillQueue_59 : decode cX1_fillQueue 59 = .ok (.getfield 21, 3) := by decide +kernel
theorem dX1_fillQueue_62 : decode cX1_fillQueue 62 = .ok (.iload_n 2, 1) := by decide +kernel
theorem dX1_fillQueue_63 : decode cX1_fillQueue 63 = .ok (.iload_n 1, 1) := by decide +kernel
theorem dX1_fillQueue_64 : decode cX1_fillQueue 64 = .ok (.iastore, 1) := by decide +kernel
theorem dX1_fillQueue_65 : decode cX1_fillQueue 65 = .ok (.iinc 1 1, 3) := by decide +kernel
theorem dX1_fillQueue_68 : decode cX1_fillQueue 68 = .ok (.goto (-66), 3) := by decide +kernel
theorem dX1_fillQueue_71 : decode cX1_fillQueue 71 = .ok (.return_, 1) := by decide +kernel
theorem dX1_fillProfile_0 : decode cX1_fillProfile 0 = .ok (.iconst 0, 1) := by decide +kernel
theorem dX1_fillProfile_1 : decode cX1_fillProfile 1 = .ok (.istore_n 1, 1) := by decide +kernel
theorem dX1_fillProfile_2 : decode cX1_fillProfile 2 = .ok (.iload_n 1, 1) := by decide +kernel
theorem dX1_fillProfile_3 : decode cX1_fillProfile 3 = .ok (.aload_n 0, 1) := by decide +kernel
theorem dX1_fillProfile_4 : decode cX1_fillProfile 4 = .ok (.getfield 37, 3) := by decide +kernel
theorem dX1_fillProfile_7 : decode cX1_fillProfile 7 = .ok (.if_icmp .ge 89, 3) := by decide +kernel
theorem dX1_fillProfile_10 : decode cX1_fillProfile 10 = .ok (.iconst 0, 1) := by decide +kernel
theorem dX1_fillProfile_11 : decode cX1_fillProfile 11 = .ok (.istore_n 2, 1) := by decide +kernel
theorem dX1_fillProfile_12 : decode cX1_fillProfile 12 = .ok (.iconst 0, 1) := by decide +kernel
theorem dX1_fillProfile_13 : decode cX1_fillProfile 13 = .ok (.istore_n 3, 1) := by decide +kernel
theorem dX1_fillProfile_14 : decode cX1_fillProfile 14 = .ok (.iload_n 3, 1) := by decide +kernel
theorem dX1_fillProfile_15 : decode cX1_fillProfile 15 = .ok (.aload_n 0, 1) := by decide +kernel
theorem dX1_fillProfile_16 : decode cX1_fillProfile 16 = .ok (.getfield 37, 3) := by decide +kernel
theorem dX1_fillProfile_19 : decode cX1_fillProfile 19 = .ok (.if_icmp .ge 26, 3) := by decide +kernel
theorem dX1_fillProfile_22 : decode cX1_fillProfile 22 = .ok (.iload_n 2, 1) := by decide +kernel
theorem dX1_fillProfile_23 : decode cX1_fillProfile 23 = .ok (.aload_n 0, 1) := by decide +kernel
theorem dX1_fillProfile_24 : decode cX1_fillProfile 24 = .ok (.iload_n 3, 1) := by decide +kernel
theorem dX1_fillProfile_25 : decode cX1_fillProfile 25 = .ok (.iload_n 1, 1) := by decide +kernel
theorem dX1_fillProfile_26 : decode cX1_fillProfile 26 = .ok (.invokevirtual 58, 3) := by decide +kernel
theorem dX1_fillProfile_29 : decode cX1_fillProfile 29 = .ok (.ifCond .eq 7, 3) := by decide +kernel
theorem dX1_fillProfile_32 : decode cX1_fillProfile 32 = .ok (.iconst 1, 1) := by decide +kernel
theorem dX1_fillProfile_33 : decode cX1_fillProfile 33 = .ok (.goto 4, 3) := by decide +kernel
theorem dX1_fillProfile_36 : decode cX1_fillProfile 36 = .ok (.iconst 0, 1) := by decide +kernel
theorem dX1_fillProfile_37 : decode cX1_fillProfile 37 = .ok (.iadd, 1) := by decide +kernel
theorem dX1_fillProfile_38 : decode cX1_fillProfile 38 = .ok (.istore_n 2, 1) := by decide +kernel
theorem dX1_fillProfile_39 : decode cX1_fillProfile 39 = .ok (.iinc 3 1, 3) := by decide +kernel
theorem dX1_fillProfile_42 : decode cX1_fillProfile 42 = .ok (.goto (-28), 3) := by decide +kernel
theorem dX1_fillProfile_45 : decode cX1_fillProfile 45 = .ok (.iload_n 1, 1) := by decide +kernel
theorem dX1_fillProfile_46 : decode cX1_fillProfile 46 = .ok (.istore_n 3, 1) := by decide +kernel
theorem dX1_fillProfile_47 : decode cX1_fillProfile 47 = .ok (.iload_n 3, 1) := by decide +kernel
theorem dX1_fillProfile_48 : decode cX1_fillProfile 48 = .ok (.ifCond .le 35, 3) := by decide +kernel
theorem dX1_fillProfile_51 : decode cX1_fillProfile 51 = .ok (.aload_n 0, 1) := by decide +kernel
theorem dX1_fillProfile_52 : decode cX1_fillProfile 52 = .ok (.getfield 15, 3) := by decide +kernel
theorem dX1_fillProfile_55 : decode cX1_fillProfile 55 = .ok (.iload_n 3, 1) := by decide +kernel
theorem dX1_fillProfile_56 : decode cX1_fillProfile 56 = .ok (.iconst 1, 1) := by decide +kernel
theorem dX1_fillProfile_57 : decode cX1_fillProfile 57 = .ok (.isub, 1) := by decide +kernel
theorem dX1_fillProfile_58 : decode cX1_fillProfile 58 = .ok (.iaload, 1) := by decide +kernel
theorem dX1_fillProfile_59 : decode cX1_fillProfile 59 = .ok (.iload_n 2, 1) := by decide +kernel
theorem dX1_fillProfile_60 : decode cX1_fillProfile 60 = .ok (.if_icmp .le 23, 3) := by decide +kernel
theorem dX1_fillProfile_63 : decode cX1_fillProfile 63 = .ok (.aload_n 0, 1) := by decide +kernel
theorem dX1_fillProfile_64 : decode cX1_fillProfile 64 = .ok (.getfield 15, 3) := by decide +kernel
theorem dX1_fillProfile_67 : decode cX1_fillProfile 67 = .ok (.iload_n 3, 1) := by decide +kernel
theorem dX1_fillProfile_68 : decode cX1_fillProfile 68 = .ok (.aload_n 0, 1) := by decide +kernel
theorem dX1_fillProfile_69 : decode cX1_fillProfile 69 = .ok (.getfield 15, 3) := by decide +kernel
theorem dX1_fillProfile_72 : decode cX1_fillProfile 72 = .ok (.iload_n 3, 1) := by decide +kernel
theorem dX1_fillProfile_73 : decode cX1_fillProfile 73 = .ok (.iconst 1, 1) := by decide +kernel
theorem dX1_fillProfile_74 : decode cX1_fillProfile 74 = .ok (.isub, 1) := by decide +kernel
theorem dX1_fillProfile_75 : decode cX1_fillProfile 75 = .ok (.iaload, 1) := by decide +kernel
theorem dX1_fillProfile_76 : decode cX1_fillProfile 76 = .ok (.iastore, 1) := by decide +kernel
theorem dX1_fillProfile_77 : decode cX1_fillProfile 77 = .ok (.iinc 3 (-1), 3) := by decide +kernel
theorem dX1_fillProfile_80 : decode cX1_fillProfile 80 = .ok (.goto (-33), 3) := by decide +kernel
theorem dX1_fillProfile_83 : decode cX1_fillProfile 83 = .ok (.aload_n 0, 1) := by decide +kernel
theorem dX1_fillProfile_84 : decode cX1_fillProfile 84 = .ok (.getfield 15, 3) := by decide +kernel
theorem dX1_fillProfile_87 : decode cX1_fillProfile 87 = .ok (.iload_n 3, 1) := by decide +kernel
theorem dX1_fillProfile_88 : decode cX1_fillProfile 88 = .ok (.iload_n 2, 1) := by decide +kernel
theorem dX1_fillProfile_89 : decode cX1_fillProfile 89 = .ok (.iastore, 1) := by decide +kernel
theorem dX1_fillProfile_90 : decode cX1_fillProfile 90 = .ok (.iinc 1 1, 3) := by decide +kernel
theorem dX1_fillProfile_93 : decode cX1_fillProfile 93 = .ok (.goto (-91), 3) := by decide +kernel
theorem dX1_fillProfile_96 : decode cX1_fillProfile 96 = .ok (.return_, 1) := by decide +kernel
theorem dX2_init_0 : decode cX2_init 0 = .ok (.aload_n 0, 1) := by decide +kernel
theorem dX2_init_1 : decode cX2_init 1 = .ok (.invokespecial 3, 3) := by decide +kernel
theorem dX2_init_4 : decode cX2_init 4 = .ok (.aload_n 0, 1) := by decide +kernel
theorem dX2_init_5 : decode cX2_init 5 = .ok (.bipush 8, 2) := by decide +kernel
theorem dX2_init_7 : decode cX2_init 7 = .ok (.anewarray 9, 3) := by decide +kernel
theorem dX2_init_10 : decode cX2_init 10 = .ok (.putfield 11, 3) := by decide +kernel
theorem dX2_init_13 : decode cX2_init 13 = .ok (.iconst 0, 1) := by decide +kernel
theorem dX2_init_14 : decode cX2_init 14 = .ok (.istore_n 1, 1) := by decide +kernel
theorem dX2_init_15 : decode cX2_init 15 = .ok (.iload_n 1, 1) := by decide +kernel
theorem dX2_init_16 : decode cX2_init 16 = .ok (.bipush 8, 2) := by decide +kernel
theorem dX2_init_18 : decode cX2_init 18 = .ok (.if_icmp .ge 22, 3) := by decide +kernel
theorem dX2_init_21 : decode cX2_init 21 = .ok (.aload_n 0, 1) := by decide +kernel
theorem dX2_init_22 : decode cX2_init 22 = .ok (.getfield 11, 3) := by decide +kernel
theorem dX2_init_25 : decode cX2_init 25 = .ok (.iload_n 1, 1) := by decide +kernel
theorem dX2_init_26 : decode cX2_init 26 = .ok (.new 9, 3) := by decide +kernel
theorem dX2_init_29 : decode cX2_init 29 = .ok (.dup, 1) := by decide +kernel
theorem dX2_init_30 : decode cX2_init 30 = .ok (.invokespecial 17, 3) := by decide +kernel
theorem dX2_init_33 : decode cX2_init 33 = .ok (.aastore, 1) := by decide +kernel
theorem dX2_init_34 : decode cX2_init 34 = .ok (.iinc 1 1, 3) := by decide +kernel
theorem dX2_init_37 : decode cX2_init 37 = .ok (.goto (-22), 3) := by decide +kernel
theorem dX2_init_40 : decode cX2_init 40 = .ok (.return_, 1) := by decide +kernel
theorem dX2_push_0 : decode cX2_push 0 = .ok (.aload_n 0, 1) := by decide +kernel
theorem dX2_push_1 : decode cX2_push 1 = .ok (.getfield 18, 3) := by decide +kernel
theorem dX2_push_4 : decode cX2_push 4 = .ok (.bipush 8, 2) := by decide +kernel
theorem dX2_push_6 : decode cX2_push 6 = .ok (.if_icmp .ne 7, 3) := by decide +kernel
theorem dX2_push_9 : decode cX2_push 9 = .ok (.aload_n 0, 1) := by decide +kernel
theorem dX2_push_10 : decode cX2_push 10 = .ok (.invokevirtual 22, 3) := by decide +kernel
theorem dX2_push_13 : decode cX2_push 13 = .ok (.aload_n 0, 1) := by decide +kernel
theorem dX2_push_14 : decode cX2_push 14 = .ok (.getfield 11, 3) := by decide +kernel
theorem dX2_push_17 : decode cX2_push 17 = .ok (.aload_n 0, 1) := by decide +kernel
theorem dX2_push_18 : decode cX2_push 18 = .ok (.getfield 18, 3) := by decide +kernel
theorem dX2_push_21 : decode cX2_push 21 = .ok (.aaload, 1) := by decide +kernel
theorem dX2_push_22 : decode cX2_push 22 = .ok (.aload_n 1, 1) := by decide +kernel
theorem dX2_push_23 : decode cX2_push 23 = .ok (.invokevirtual 25, 3) := by decide +kernel
theorem dX2_push_26 : decode cX2_push 26 = .ok (.aload_n 0, 1) := by decide +kernel
theorem dX2_push_27 : decode cX2_push 27 = .ok (.dup, 1) := by decide +kernel
theorem dX2_push_28 : decode cX2_push 28 = .ok (.getfield 18, 3) := by decide +kernel
theorem dX2_push_31 : decode cX2_push 31 = .ok (.iconst 1, 1) := by decide +kernel
theorem dX2_push_32 : decode cX2_push 32 = .ok (.iadd, 1) := by decide +kernel
theorem dX2_push_33 : decode cX2_push 33 = .ok (.putfield 18, 3) := by decide +kernel
theorem dX2_push_36 : decode cX2_push 36 = .ok (.return_, 1) := by decide +kernel
theorem dX2_popInto_0 : decode cX2_popInto 0 = .ok (.aload_n 0, 1) := by decide +kernel
theorem dX2_popInto_1 : decode cX2_popInto 1 = .ok (.getfield 18, 3) := by decide +kernel
theorem dX2_popInto_4 : decode cX2_popInto 4 = .ok (.ifCond .le 26, 3) := by decide +kernel
theorem dX2_popInto_7 : decode cX2_popInto 7 = .ok (.aload_n 0, 1) := by decide +kernel
theorem dX2_popInto_8 : decode cX2_popInto 8 = .ok (.dup, 1) := by decide +kernel
theorem dX2_popInto_9 : decode cX2_popInto 9 = .ok (.getfield 18, 3) := by decide +kernel
theorem dX2_popInto_12 : decode cX2_popInto 12 = .ok (.iconst 1, 1) := by decide +kernel
theorem dX2_popInto_13 : decode cX2_popInto 13 = .ok (.isub, 1) := by decide +kernel
theorem dX2_popInto_14 : decode cX2_popInto 14 = .ok (.putfield 18, 3) := by decide +kernel
theorem dX2_popInto_17 : decode cX2_popInto 17 = .ok (.aload_n 1, 1) := by decide +kernel
theorem dX2_popInto_18 : decode cX2_popInto 18 = .ok (.aload_n 0, 1) := by decide +kernel
theorem dX2_popInto_19 : decode cX2_popInto 19 = .ok (.getfield 11, 3) := by decide +kernel
theorem dX2_popInto_22 : decode cX2_popInto 22 = .ok (.aload_n 0, 1) := by decide +kernel
theorem dX2_popInto_23 : decode cX2_popInto 23 = .ok (.getfield 18, 3) := by decide +kernel
theorem dX2_popInto_26 : decode cX2_popInto 26 = .ok (.aaload, 1) := by decide +kernel
theorem dX2_popInto_27 : decode cX2_popInto 27 = .ok (.invokevirtual 25, 3) := by decide +kernel
theorem dX2_popInto_30 : decode cX2_popInto 30 = .ok (.return_, 1) := by decide +kernel
theorem dX2_forgetOldest_0 : decode cX2_forgetOldest 0 = .ok (.aload_n 0, 1) := by decide +kernel
theorem dX2_forgetOldest_1 : decode cX2_forgetOldest 1 = .ok (.getfield 11, 3) := by decide +kernel
theorem dX2_forgetOldest_4 : decode cX2_forgetOldest 4 = .ok (.iconst 0, 1) := by decide +kernel
theorem dX2_forgetOldest_5 : decode cX2_forgetOldest 5 = .ok (.aaload, 1) := by decide +kernel
theorem dX2_forgetOldest_6 : decode cX2_forgetOldest 6 = .ok (.astore_n 1, 1) := by decide +kernel
theorem dX2_forgetOldest_7 : decode cX2_forgetOldest 7 = .ok (.iconst 0, 1) := by decide +kernel
theorem dX2_forgetOldest_8 : decode cX2_forgetOldest 8 = .ok (.istore_n 2, 1) := by decide +kernel
theorem dX2_forgetOldest_9 : decode cX2_forgetOldest 9 = .ok (.iload_n 2, 1) := by decide +kernel
theorem dX2_forgetOldest_10 : decode cX2_forgetOldest 10 = .ok (.iconst 1, 1) := by decide +kernel
theorem dX2_forgetOldest_11 : decode cX2_forgetOldest 11 = .ok (.iadd, 1) := by decide +kernel
theorem dX2_forgetOldest_12 : decode cX2_forgetOldest 12 = .ok (.bipush 8, 2) := by decide +kernel
theorem dX2_forgetOldest_14 : decode cX2_forgetOldest 14 = .ok (.if_icmp .ge 23, 3) := by decide +kernel
theorem dX2_forgetOldest_17 : decode cX2_forgetOldest 17 = .ok (.aload_n 0, 1) := by decide +kernel
theorem dX2_forgetOldest_18 : decode cX2_forgetOldest 18 = .ok (.getfield 11, 3) := by decide +kernel
theorem dX2_forgetOldest_21 : decode cX2_forgetOldest 21 = .ok (.iload_n 2, 1) := by decide +kernel
theorem dX2_forgetOldest_22 : decode cX2_forgetOldest 22 = .ok (.aload_n 0, 1) := by decide +kernel
theorem dX2_forgetOldest_23 : decode cX2_forgetOldest 23 = .ok (.getfield 11, 3) := by decide +kernel
theorem dX2_forgetOldest_26 : decode cX2_forgetOldest 26 = .ok (.iload_n 2, 1) := by decide +kernel
theorem dX2_forgetOldest_27 : decode cX2_forgetOldest 27 = .ok (.iconst 1, 1) := by decide +kernel
theorem dX2_forgetOldest_28 : decode cX2_forgetOldest 28 = .ok (.iadd, 1) := by decide +kernel
theorem dX2_forgetOldest_29 : decode cX2_forgetOldest 29 = .ok (.aaload, 1) := by decide +kernel
theorem dX2_forgetOldest_30 : decode cX2_forgetOldest 30 = .ok (.aastore, 1) := by decide +kernel
theorem dX2_forgetOldest_31 : decode cX2_forgetOldest 31 = .ok (.iinc 2 1, 3) := by decide +kernel
theorem dX2_forgetOldest_34 : decode cX2_forgetOldest 34 = .ok (.goto (-25), 3) := by decide +kernel
theorem dX2_forgetOldest_37 : decode cX2_forgetOldest 37 = .ok (.aload_n 0, 1) := by decide +kernel
theorem dX2_forgetOldest_38 : decode cX2_forgetOldest 38 = .ok (.getfield 11, 3) := by decide +kernel
theorem dX2_forgetOldest_41 : decode cX2_forgetOldest 41 = .ok (.bipush 7, 2) := by decide +kernel
theorem dX2_forgetOldest_43 : decode cX2_forgetOldest 43 = .ok (.aload_n 1, 1) := by decide +kernel
theorem dX2_forgetOldest_44 : decode cX2_forgetOldest 44 = .ok (.aastore, 1) := by decide +kernel
theorem dX2_forgetOldest_45 : decode cX2_forgetOldest 45 = .ok (.aload_n 0, 1) := by decide +kernel
theorem dX2_forgetOldest_46 : decode cX2_forgetOldest 46 = .ok (.dup, 1) := by decide +kernel
theorem dX2_forgetOldest_47 : decode cX2_forgetOldest 47 = .ok (.getfield 18, 3) := by decide +kernel
theorem dX2_forgetOldest_50 : decode cX2_forgetOldest 50 = .ok (.iconst 1, 1) := by decide +kernel
theorem dX2_forgetOldest_51 : decode cX2_forgetOldest 51 = .ok (.isub, 1) := by decide +kernel
theorem dX2_forgetOldest_52 : decode cX2_forgetOldest 52 = .ok (.putfield 18, 3) := by decide +kernel
theorem dX2_forgetOldest_55 : decode cX2_forgetOldest 55 = .ok (.return_, 1) := by decide +kernel
theorem dX3_init_0 : decode cX3_init 0 = .ok (.aload_n 0, 1) := by decide +kernel
theorem dX3_init_1 : decode cX3_init 1 = .ok (.invokespecial 3, 3) := by decide +kernel
theorem dX3_init_4 : decode cX3_init 4 = .ok (.aload_n 0, 1) := by decide +kernel
theorem dX3_init_5 : decode cX3_init 5 = .ok (.bipush 64, 2) := by decide +kernel
theorem dX3_init_7 : decode cX3_init 7 = .ok (.newarray .int, 2) := by decide +kernel
theorem dX3_init_9 : decode cX3_init 9 = .ok (.putfield 9, 3) := by decide +kernel
theorem dX3_init_12 : decode cX3_init 12 = .ok (.return_, 1) := by decide +kernel
theorem dX3_copyFrom_0 : decode cX3_copyFrom 0 = .ok (.aload_n 0, 1) := by decide +kernel
theorem dX3_copyFrom_1 : decode cX3_copyFrom 1 = .ok (.aload_n 1, 1) := by decide +kernel
theorem dX3_copyFrom_2 : decode cX3_copyFrom 2 = .ok (.getfield 15, 3) := by decide +kernel
theorem dX3_copyFrom_5 : decode cX3_copyFrom 5 = .ok (.putfield 15, 3) := by decide +kernel
theorem dX3_copyFrom_8 : decode cX3_copyFrom 8 = .ok (.aload_n 1, 1) := by decide +kernel
theorem dX3_copyFrom_9 : decode cX3_copyFrom 9 = .ok (.getfield 9, 3) := by decide +kernel
theorem dX3_copyFrom_12 : decode cX3_copyFrom 12 = .ok (.iconst 0, 1) := by decide +kernel
theorem dX3_copyFrom_13 : decode cX3_copyFrom 13 = .ok (.aload_n 0, 1) := by decide +kernel
theorem dX3_copyFrom_14 : decode cX3_copyFrom 14 = .ok (.getfield 9, 3) := by decide +kernel
theorem dX3_copyFrom_17 : decode cX3_copyFrom 17 = .ok (.iconst 0, 1) := by decide +kernel
theorem dX3_copyFrom_18 : decode cX3_copyFrom 18 = .ok (.bipush 64, 2) := by decide +kernel
theorem dX3_copyFrom_20 : decode cX3_copyFrom 20 = .ok (.invokestatic 19, 3) := by decide +kernel
theorem dX3_copyFrom_23 : decode cX3_copyFrom 23 = .ok (.return_, 1) := by decide +kernel
theorem dX3_weigh_0 : decode cX3_weigh 0 = .ok (.aload_n 0, 1) := by decide +kernel
theorem dX3_weigh_1 : decode cX3_weigh 1 = .ok (.aload_n 1, 1) := by decide +kernel
theorem dX3_weigh_2 : decode cX3_weigh 2 = .ok (.iload_n 2, 1) := by decide +kernel
theorem dX3_weigh_3 : decode cX3_weigh 3 = .ok (.iconst 1, 1) := by decide +kernel
theorem dX3_weigh_4 : decode cX3_weigh 4 = .ok (.iconst (-1), 1) := by decide +kernel
theorem dX3_weigh_5 : decode cX3_weigh 5 = .ok (.invokevirtual 25, 3) := by decide +kernel
theorem dX3_weigh_8 : decode cX3_weigh 8 = .ok (.aload_n 0, 1) := by decide +kernel
theorem dX3_weigh_9 : decode cX3_weigh 9 = .ok (.invokevirtual 29, 3) := by decide +kernel
theorem dX3_weigh_12 : decode cX3_weigh 12 = .ok (.return_, 1) := by decide +kernel
theorem dX3_stretch_0 : decode cX3_stretch 0 = .ok (.aload_n 0, 1) := by decide +kernel
theorem dX3_stretch_1 : decode cX3_stretch 1 = .ok (.aload_n 1, 1) := by decide +kernel
theorem dX3_stretch_2 : decode cX3_stretch 2 = .ok (.iconst 0, 1) := by decide +kernel
theorem dX3_stretch_3 : decode cX3_stretch 3 = .ok (.iload_n 2, 1) := by decide +kernel
theorem dX3_stretch_4 : decode cX3_stretch 4 = .ok (.iconst 1, 1) := by decide +kernel
theorem dX3_stretch_5 : decode cX3_stretch 5 = .ok (.iload_n 2, 1) := by decide +kernel
theorem dX3_stretch_6 : decode cX3_stretch 6 = .ok (.isub, 1) := by decide +kernel
theorem dX3_stretch_7 : decode cX3_stretch 7 = .ok (.invokevirtual 25, 3) := by decide +kernel
theorem dX3_stretch_10 : decode cX3_stretch 10 = .ok (.aload_n 0, 1) := by decide +kernel
theorem dX3_stretch_11 : decode cX3_stretch 11 = .ok (.invokevirtual 29, 3) := by decide +kernel
theorem dX3_stretch_14 : decode cX3_stretch 14 = .ok (.iconst 0, 1) := by decide +kernel
theorem dX3_stretch_15 : decode cX3_stretch 15 = .ok (.istore_n 3, 1) := by decide +kernel
theorem dX3_stretch_16 : decode cX3_stretch 16 = .ok (.iload_n 3, 1) := by decide +kernel
theorem dX3_stretch_17 : decode cX3_stretch 17 = .ok (.aload_n 0, 1) := by decide +kernel
theorem dX3_stretch_18 : decode cX3_stretch 18 = .ok (.getfield 15, 3) := by decide +kernel
theorem dX3_stretch_21 : decode cX3_stretch 21 = .ok (.if_icmp .ge 20, 3) := by decide +kernel
theorem dX3_stretch_24 : decode cX3_stretch 24 = .ok (.aload_n 0, 1) := by decide +kernel
theorem dX3_stretch_25 : decode cX3_stretch 25 = .ok (.iload_n 3, 1) := by decide +kernel
theorem dX3_stretch_26 : decode cX3_stretch 26 = .ok (.iload_n 3, 1) := by decide +kernel
theorem dX3_stretch_27 : decode cX3_stretch 27 = .ok (.invokevirtual 32, 3) := by decide +kernel
theorem dX3_stretch_30 : decode cX3_stretch 30 = .ok (.ifCond .le 5, 3) := by decide +kernel
theorem dX3_stretch_33 : decode cX3_stretch 33 = .ok (.iconst 0, 1) := by decide +kernel
theorem dX3_stretch_34 : decode cX3_stretch 34 = .ok (.ireturn, 1) := by decide +kernel
theorem dX3_stretch_35 : decode cX3_stretch 35 = .ok (.iinc 3 1, 3) := by decide +kernel
theorem dX3_stretch_38 : decode cX3_stretch 38 = .ok (.goto (-22), 3) := by decide +kernel
theorem dX3_stretch_41 : decode cX3_stretch 41 = .ok (.iconst 1, 1) := by decide +kernel
theorem dX3_stretch_42 : decode cX3_stretch 42 = .ok (.ireturn, 1) := by decide +kernel
theorem dX3_between_0 : decode cX3_between 0 = .ok (.aload_n 0, 1) := by decide +kernel
theorem dX3_between_1 : decode cX3_between 1 = .ok (.getfield 9, 3) := by decide +kernel
theorem dX3_between_4 : decode cX3_between 4 = .ok (.iload_n 1, 1) := by decide +kernel
theorem dX3_between_5 : decode cX3_between 5 = .ok (.bipush 8, 2) := by decide +kernel
theorem dX3_between_7 : decode cX3_between 7 = .ok (.imul, 1) := by decide +kernel
theorem dX3_between_8 : decode cX3_between 8 = .ok (.iload_n 2, 1) := by decide +kernel
theorem dX3_between_9 : decode cX3_between 9 = .ok (.iadd, 1) := by decide +kernel
theorem dX3_between_10 : decode cX3_between 10 = .ok (.iaload, 1) := by decide +kernel
theorem dX3_between_11 : decode cX3_between 11 = .ok (.ireturn, 1) := by decide +kernel
theorem dX3_earliest_0 : decode cX3_earliest 0 = .ok (.iconst 0, 1) := by decide +kernel
theorem dX3_earliest_1 : decode cX3_earliest 1 = .ok (.istore_n 2, 1) := by decide +kernel
theorem dX3_earliest_2 : decode cX3_earliest 2 = .ok (.iconst 0, 1) := by decide +kernel
theorem dX3_earliest_3 : decode cX3_earliest 3 = .ok (.istore_n 3, 1) := by decide +kernel
theorem dX3_earliest_4 : decode cX3_earliest 4 = .ok (.iload_n 3, 1) := by decide +kernel
theorem dX3_earliest_5 : decode cX3_earliest 5 = .ok (.aload_n 0, 1) := by decide +kernel
theorem dX3_earliest_6 : decode cX3_earliest 6 = .ok (.getfield 15, 3) := by decide +kernel
theorem dX3_earliest_9 : decode cX3_earliest 9 = .ok (.if_icmp .ge 20, 3) := by decide +kernel
theorem dX3_earliest_12 : decode cX3_earliest 12 = .ok (.iload_n 2, 1) := by decide +kernel
theorem dX3_earliest_13 : decode cX3_earliest 13 = .ok (.aload_n 0, 1) := by decide +kernel
theorem dX3_earliest_14 : decode cX3_earliest 14 = .ok (.iload_n 3, 1) := by decide +kernel
theorem dX3_earliest_15 : decode cX3_earliest 15 = .ok (.iload_n 1, 1) := by decide +kernel
theorem dX3_earliest_16 : decode cX3_earliest 16 = .ok (.invokevirtual 32, 3) := by decide +kernel
theorem dX3_earliest_19 : decode cX3_earliest 19 = .ok (.invokestatic 36, 3) := by decide +kernel
theorem dX3_earliest_22 : decode cX3_earliest 22 = .ok (.istore_n 2, 1) := by decide +kernel
theorem dX3_earliest_23 : decode cX3_earliest 23 = .ok (.iinc 3 1, 3) := by decide +kernel
theorem dX3_earliest_26 : decode cX3_earliest 26 = .ok (.goto (-22), 3) := by decide +kernel
theorem dX3_earliest_29 : decode cX3_earliest 29 = .ok (.iload_n 2, 1) := by decide +kernel
theorem dX3_earliest_30 : decode cX3_earliest 30 = .ok (.ireturn, 1) := by decide +kernel
theorem dX3_options_0 : decode cX3_options 0 = .ok (.aload_n 0, 1) := by decide +kernel
theorem dX3_options_1 : decode cX3_options 1 = .ok (.iload_n 1, 1) := by decide +kernel
theorem dX3_options_2 : decode cX3_options 2 = .ok (.iload_n 2, 1) := by decide +kernel
theorem dX3_options_3 : decode cX3_options 3 = .ok (.invokevirtual 32, 3) := by decide +kernel
theorem dX3_options_6 : decode cX3_options 6 = .ok (.istore_n 3, 1) := by decide +kernel
theorem dX3_options_7 : decode cX3_options 7 = .ok (.aload_n 0, 1) := by decide +kernel
theorem dX3_options_8 : decode cX3_options 8 = .ok (.iload_n 2, 1) := by decide +kernel
theorem dX3_options_9 : decode cX3_options 9 = .ok (.iload_n 1, 1) := by decide +kernel
theorem dX3_options_10 : decode cX3_options 10 = .ok (.invokevirtual 32, 3) := by decide +kernel
theorem dX3_options_13 : decode cX3_options 13 = .ok (.istore 4, 2) := by decide +kernel
theorem dX3_options_15 : decode cX3_options 15 = .ok (.iconst 0, 1) := by decide +kernel
theorem dX3_options_16 : decode cX3_options 16 = .ok (.istore 5, 2) := by decide +kernel
theorem dX3_options_18 : decode cX3_options 18 = .ok (.iload 4, 2) := by decide +kernel
theorem dX3_options_20 : decode cX3_options 20 = .ok (.iconst 1, 1) := by decide +kernel
theorem dX3_options_21 : decode cX3_options 21 = .ok (.iadd, 1) := by decide +kernel
theorem dX3_options_22 : decode cX3_options 22 = .ok (.ifCond .ge 9, 3) := by decide +kernel
theorem dX3_options_25 : decode cX3_options 25 = .ok (.iload 5, 2) := by decide +kernel
theorem dX3_options_27 : decode cX3_options 27 = .ok (.iconst 1, 1) := by decide +kernel
theorem dX3_options_28 : decode cX3_options 28 = .ok (.ior, 1) := by decide +kernel
theorem dX3_options_29 : decode cX3_options 29 = .ok (.istore 5, 2) := by decide +kernel
theorem dX3_options_31 : decode cX3_options 31 = .ok (.iload_n 3, 1) := by decide +kernel
theorem dX3_options_32 : decode cX3_options 32 = .ok (.iconst 1, 1) := by decide +kernel
theorem dX3_options_33 : decode cX3_options 33 = .ok (.iadd, 1) := by decide +kernel
theorem dX3_options_34 : decode cX3_options 34 = .ok (.ifCond .ge 9, 3) := by decide +kernel
theorem dX3_options_37 : decode cX3_options 37 = .ok (.iload 5, 2) := by decide +kernel
theorem dX3_options_39 : decode cX3_options 39 = .ok (.iconst 2, 1) := by decide +kernel
theorem dX3_options_40 : decode cX3_options 40 = .ok (.ior, 1) := by decide +kernel
theorem dX3_options_41 : decode cX3_options 41 = .ok (.istore 5, 2) := by decide +kernel
theorem dX3_options_43 : decode cX3_options 43 = .ok (.iload_n 3, 1) := by decide +kernel
theorem dX3_options_44 : decode cX3_options 44 = .ok (.iconst 1, 1) := by decide +kernel
theorem dX3_options_45 : decode cX3_options 45 = .ok (.isub, 1) := by decide +kernel
theorem dX3_options_46 : decode cX3_options 46 = .ok (.ifCond .ge 16, 3) := by decide +kernel
theorem dX3_options_49 : decode cX3_options 49 = .ok (.iload 4, 2) := by decide +kernel
theorem dX3_options_51 : decode cX3_options 51 = .ok (.iconst 1, 1) := by decide +kernel
theorem dX3_options_52 : decode cX3_options 52 = .ok (.isub, 1) := by decide +kernel
theorem dX3_options_53 : decode cX3_options 53 = .ok (.ifCond .ge 9, 3) := by decide +kernel
theorem dX3_options_56 : decode cX3_options 56 = .ok (.iload 5, 2) := by decide +kernel
theorem dX3_options_58 : decode cX3_options 58 = .ok (.iconst 4, 1) := by decide +kernel
theorem dX3_options_59 : decode cX3_options 59 = .ok (.ior, 1) := by decide +kernel
theorem dX3_options_60 : decode cX3_options 60 = .ok (.istore 5, 2) := by decide +kernel
theorem dX3_options_62 : decode cX3_options 62 = .ok (.iload 5, 2) := by decide +kernel
theorem dX3_options_64 : decode cX3_options 64 = .ok (.ireturn, 1) := by decide +kernel
theorem dX3_join_0 : decode cX3_join 0 = .ok (.iload_n 1, 1) := by decide +kernel
theorem dX3_join_1 : decode cX3_join 1 = .ok (.ifCond .ne 13, 3) := by decide +kernel
theorem dX3_join_4 : decode cX3_join 4 = .ok (.aload_n 0, 1) := by decide +kernel
theorem dX3_join_5 : decode cX3_join 5 = .ok (.iload_n 2, 1) := by decide +kernel
theorem dX3_join_6 : decode cX3_join 6 = .ok (.iload_n 3, 1) := by decide +kernel
theorem dX3_join_7 : decode cX3_join 7 = .ok (.iconst 1, 1) := by decide +kernel
theorem dX3_join_8 : decode cX3_join 8 = .ok (.invokevirtual 41, 3) := by decide +kernel
theorem dX3_join_11 : decode cX3_join 11 = .ok (.goto 17, 3) := by decide +kernel
theorem dX3_join_14 : decode cX3_join 14 = .ok (.aload_n 0, 1) := by decide +kernel
theorem dX3_join_15 : decode cX3_join 15 = .ok (.iload_n 2, 1) := by decide +kernel
theorem dX3_join_16 : decode cX3_join 16 = .ok (.iload_n 3, 1) := by decide +kernel
theorem dX3_join_17 : decode cX3_join 17 = .ok (.iconst (-1), 1) := by decide +kernel
theorem dX3_join_18 : decode cX3_join 18 = .ok (.invokevirtual 41, 3) := by decide +kernel
theorem dX3_join_21 : decode cX3_join 21 = .ok (.aload_n 0, 1) := by decide +kernel
theorem dX3_join_22 : decode cX3_join 22 = .ok (.iload_n 3, 1) := by decide +kernel
theorem dX3_join_23 : decode cX3_join 23 = .ok (.iload_n 2, 1) := by decide +kernel
theorem dX3_join_24 : decode cX3_join 24 = .ok (.iconst (-1), 1) := by decide +kernel
theorem dX3_join_25 : decode cX3_join 25 = .ok (.invokevirtual 41, 3) := by decide +kernel
theorem dX3_join_28 : decode cX3_join 28 = .ok (.return_, 1) := by decide +kernel
theorem dX3_lay_0 : decode cX3_lay 0 = .ok (.aload_n 0, 1) := by decide +kernel
theorem dX3_lay_1 : decode cX3_lay 1 = .ok (.aload_n 1, 1) := by decide +kernel
theorem dX3_lay_2 : decode cX3_lay 2 = .ok (.getfield 45, 3) := by decide +kernel
theorem dX3_lay_5 : decode cX3_lay 5 = .ok (.putfield 15, 3) := by decide +kernel
theorem dX3_lay_8 : decode cX3_lay 8 = .ok (.iconst 0, 1) := by decide +kernel
theorem dX3_lay_9 : decode cX3_lay 9 = .ok (.istore 5, 2) := by decide +kernel
theorem dX3_lay_11 : decode cX3_lay 11 = .ok (.iload 5, 2) := by decide +kernel
theorem dX3_lay_13 : decode cX3_lay 13 = .ok (.bipush 64, 2) := by decide +kernel
theorem dX3_lay_15 : decode cX3_lay 15 = .ok (.if_icmp .ge 35, 3) := by decide +kernel
theorem dX3_lay_18 : decode cX3_lay 18 = .ok (.aload_n 0, 1) := by decide +kernel
theorem dX3_lay_19 : decode cX3_lay 19 = .ok (.getfield 9, 3) := by decide +kernel
theorem dX3_lay_22 : decode cX3_lay 22 = .ok (.iload 5, 2) := by decide +kernel
theorem dX3_lay_24 : decode cX3_lay 24 = .ok (.iload 5, 2) := by decide +kernel
theorem dX3_lay_26 : decode cX3_lay 26 = .ok (.bipush 8, 2) := by decide +kernel
theorem dX3_lay_28 : decode cX3_lay 28 = .ok (.idiv, 1) := by decide +kernel
theorem dX3_lay_29 : decode cX3_lay 29 = .ok (.iload 5, 2) := by decide +kernel
theorem dX3_lay_31 : decode cX3_lay 31 = .ok (.bipush 8, 2) := by decide +kernel
theorem dX3_lay_33 : decode cX3_lay 33 = .ok (.irem, 1) := by decide +kernel
theorem dX3_lay_34 : decode cX3_lay 34 = .ok (.if_icmp .ne 7, 3) := by decide +kernel
theorem dX3_lay_37 : decode cX3_lay 37 = .ok (.iconst 0, 1) := by decide +kernel
theorem dX3_lay_38 : decode cX3_lay 38 = .ok (.goto 5, 3) := by decide +kernel
theorem dX3_lay_41 : decode cX3_lay 41 = .ok (.ldc 48, 2) := by decide +kernel
theorem dX3_lay_43 : decode cX3_lay 43 = .ok (.iastore, 1) := by decide +kernel
theorem dX3_lay_44 : decode cX3_lay 44 = .ok (.iinc 5 1, 3) := by decide +kernel
theorem dX3_lay_47 : decode cX3_lay 47 = .ok (.goto (-36), 3) := by decide +kernel
theorem dX3_lay_50 : decode cX3_lay 50 = .ok (.iconst 0, 1) := by decide +kernel
theorem dX3_lay_51 : decode cX3_lay 51 = .ok (.istore 5, 2) := by decide +kernel
theorem dX3_lay_53 : decode cX3_lay 53 = .ok (.iload 5, 2) := by decide +kernel
theorem dX3_lay_55 : decode cX3_lay 55 = .ok (.aload_n 1, 1) := by decide +kernel
theorem dX3_lay_56 : decode cX3_lay 56 = .ok (.getfield 49, 3) := by decide +kernel
theorem dX3_lay_59 : decode cX3_lay 59 = .ok (.if_icmp .ge 93, 3) := by decide +kernel
theorem dX3_lay_62 : decode cX3_lay 62 = .ok (.iload_n 2, 1) := by decide +kernel
theorem dX3_lay_63 : decode cX3_lay 63 = .ok (.iload 5, 2) := by decide +kernel
theorem dX3_lay_65 : decode cX3_lay 65 = .ok (.ishr, 1) := by decide +kernel
theorem dX3_lay_66 : decode cX3_lay 66 = .ok (.iconst 1, 1) := by decide +kernel
theorem dX3_lay_67 : decode cX3_lay 67 = .ok (.iand, 1) := by decide +kernel
theorem dX3_lay_68 : decode cX3_lay 68 = .ok (.ifCond .ne 78, 3) := by decide +kernel
theorem dX3_lay_71 : decode cX3_lay 71 = .ok (.aload_n 1, 1) := by decide +kernel
theorem dX3_lay_72 : decode cX3_lay 72 = .ok (.getfield 52, 3) := by decide +kernel
theorem dX3_lay_75 : decode cX3_lay 75 = .ok (.iload 5, 2) := by decide +kernel
theorem dX3_lay_77 : decode cX3_lay 77 = .ok (.iaload, 1) := by decide +kernel
theorem dX3_lay_78 : decode cX3_lay 78 = .ok (.bipush 8, 2) := by decide +kernel
theorem dX3_lay_80 : decode cX3_lay 80 = .ok (.imul, 1) := by decide +kernel
theorem dX3_lay_81 : decode cX3_lay 81 = .ok (.aload_n 1, 1) := by decide +kernel
theorem dX3_lay_82 : decode cX3_lay 82 = .ok (.getfield 55, 3) := by decide +kernel
theorem dX3_lay_85 : decode cX3_lay 85 = .ok (.iload 5, 2) := by decide +kernel
theorem dX3_lay_87 : decode cX3_lay 87 = .ok (.iaload, 1) := by decide +kernel
theorem dX3_lay_88 : decode cX3_lay 88 = .ok (.iadd, 1) := by decide +kernel
theorem dX3_lay_89 : decode cX3_lay 89 = .ok (.istore 6, 2) := by decide +kernel
theorem dX3_lay_91 : decode cX3_lay 91 = .ok (.aload_n 1, 1) := by decide +kernel
theorem dX3_lay_92 : decode cX3_lay 92 = .ok (.getfield 58, 3) := by decide +kernel
theorem dX3_lay_95 : decode cX3_lay 95 = .ok (.iload 5, 2) := by decide +kernel
theorem dX3_lay_97 : decode cX3_lay 97 = .ok (.iaload, 1) := by decide +kernel
theorem dX3_lay_98 : decode cX3_lay 98 = .ok (.ifCond .ne 14, 3) := by decide +kernel
theorem dX3_lay_101 : decode cX3_lay 101 = .ok (.aload_n 0, 1) := by decide +kernel
theorem dX3_lay_102 : decode cX3_lay 102 = .ok (.getfield 9, 3) := by decide +kernel
theorem dX3_lay_105 : decode cX3_lay 105 = .ok (.iload 6, 2) := by decide +kernel
theorem dX3_lay_107 : decode cX3_lay 107 = .ok (.iload_n 3, 1) := by decide +kernel
theorem dX3_lay_108 : decode cX3_lay 108 = .ok (.iastore, 1) := by decide +kernel
theorem dX3_lay_109 : decode cX3_lay 109 = .ok (.goto 37, 3) := by decide +kernel
theorem dX3_lay_112 : decode cX3_lay 112 = .ok (.aload_n 0, 1) := by decide +kernel
theorem dX3_lay_113 : decode cX3_lay 113 = .ok (.getfield 9, 3) := by decide +kernel
theorem dX3_lay_116 : decode cX3_lay 116 = .ok (.iload 6, 2) := by decide +kernel
theorem dX3_lay_118 : decode cX3_lay 118 = .ok (.iload 4, 2) := by decide +kernel
theorem dX3_lay_120 : decode cX3_lay 120 = .ok (.iastore, 1) := by decide +kernel
theorem dX3_lay_121 : decode cX3_lay 121 = .ok (.aload_n 0, 1) := by decide +kernel
theorem dX3_lay_122 : decode cX3_lay 122 = .ok (.getfield 9, 3) := by decide +kernel
theorem dX3_lay_125 : decode cX3_lay 125 = .ok (.aload_n 1, 1) := by decide +kernel
theorem dX3_lay_126 : decode cX3_lay 126 = .ok (.getfield 55, 3) := by decide +kernel
theorem dX3_lay_129 : decode cX3_lay 129 = .ok (.iload 5, 2) := by decide +kernel
theorem dX3_lay_131 : decode cX3_lay 131 = .ok (.iaload, 1) := by decide +kernel
theorem dX3_lay_132 : decode cX3_lay 132 = .ok (.bipush 8, 2) := by decide +kernel
theorem dX3_lay_134 : decode cX3_lay 134 = .ok (.imul, 1) := by decide +kernel
theorem dX3_lay_135 : decode cX3_lay 135 = .ok (.aload_n 1, 1) := by decide +kernel
theorem dX3_lay_136 : decode cX3_lay 136 = .ok (.getfield 52, 3) := by decide +kernel
theorem dX3_lay_139 : decode cX3_lay 139 = .ok (.iload 5, 2) := by decide +kernel
theorem dX3_lay_141 : decode cX3_lay 141 = .ok (.iaload, 1) := by decide +kernel
theorem dX3_lay_142 : decode cX3_lay 142 = .ok (.iadd, 1) := by decide +kernel
theorem dX3_lay_143 : decode cX3_lay 143 = .ok (.iload 4, 2) := by decide +kernel
theorem dX3_lay_145 : decode cX3_lay 145 = .ok (.iastore, 1) := by decide +kernel
theorem dX3_lay_146 : decode cX3_lay 146 = .ok (.iinc 5 1, 3) := by decide +kernel
theorem dX3_lay_149 : decode cX3_lay 149 = .ok (.goto (-96), 3) := by decide +kernel
theorem dX3_lay_152 : decode cX3_lay 152 = .ok (.return_, 1) := by decide +kernel
theorem dX3_close_0 : decode cX3_close 0 = .ok (.iconst 0, 1) := by decide +kernel
theorem dX3_close_1 : decode cX3_close 1 = .ok (.istore_n 1, 1) := by decide +kernel
theorem dX3_close_2 : decode cX3_close 2 = .ok (.iload_n 1, 1) := by decide +kernel
theorem dX3_close_3 : decode cX3_close 3 = .ok (.aload_n 0, 1) := by decide +kernel
theorem dX3_close_4 : decode cX3_close 4 = .ok (.getfield 15, 3) := by decide +kernel
theorem dX3_close_7 : decode cX3_close 7 = .ok (.if_icmp .ge 53, 3) := by decide +kernel
theorem dX3_close_10 : decode cX3_close 10 = .ok (.iconst 0, 1) := by decide +kernel
theorem dX3_close_11 : decode cX3_close 11 = .ok (.istore_n 2, 1) := by decide +kernel
theorem dX3_close_12 : decode cX3_close 12 = .ok (.iload_n 2, 1) := by decide +kernel
theorem dX3_close_13 : decode cX3_close 13 = .ok (.aload_n 0, 1) := by decide +kernel
theorem dX3_close_14 : decode cX3_close 14 = .ok (.getfield 15, 3) := by decide +kernel
theorem dX3_close_17 : decode cX3_close 17 = .ok (.if_icmp .ge 37, 3) := by decide +kernel
theorem dX3_close_20 : decode cX3_close 20 = .ok (.iload_n 2, 1) := by decide +kernel
theorem dX3_close_21 : decode cX3_close 21 = .ok (.iload_n 1, 1) := by decide +kernel
theorem dX3_close_22 : decode cX3_close 22 = .ok (.if_icmp .eq 26, 3) := by decide +kernel
theorem dX3_close_25 : decode cX3_close 25 = .ok (.aload_n 0, 1) := by decide +kernel
theorem dX3_close_26 : decode cX3_close 26 = .ok (.iload_n 2, 1) := by decide +kernel
theorem dX3_close_27 : decode cX3_close 27 = .ok (.iload_n 1, 1) := by decide +kernel
theorem dX3_close_28 : decode cX3_close 28 = .ok (.invokevirtual 32, 3) := by decide +kernel
theorem dX3_close_31 : decode cX3_close 31 = .ok (.ldc 48, 2) := by decide +kernel
theorem dX3_close_33 : decode cX3_close 33 = .ok (.if_icmp .eq 15, 3) := by decide +kernel
theorem dX3_close_36 : decode cX3_close 36 = .ok (.aload_n 0, 1) := by decide +kernel
theorem dX3_close_37 : decode cX3_close 37 = .ok (.iload_n 2, 1) := by decide +kernel
theorem dX3_close_38 : decode cX3_close 38 = .ok (.aload_n 0, 1) := by decide +kernel
theorem dX3_close_39 : decode cX3_close 39 = .ok (.iload_n 2, 1) := by decide +kernel
theorem dX3_close_40 : decode cX3_close 40 = .ok (.iload_n 1, 1) := by decide +kernel
theorem dX3_close_41 : decode cX3_close 41 = .ok (.invokevirtual 32, 3) := by decide +kernel
theorem dX3_close_44 : decode cX3_close 44 = .ok (.iload_n 1, 1) := by decide +kernel
theorem dX3_close_45 : decode cX3_close 45 = .ok (.invokevirtual 61, 3) := by decide +kernel
theorem dX3_close_48 : decode cX3_close 48 = .ok (.iinc 2 1, 3) := by decide +kernel
theorem dX3_close_51 : decode cX3_close 51 = .ok (.goto (-39), 3) := by decide +kernel
theorem dX3_close_54 : decode cX3_close 54 = .ok (.iinc 1 1, 3) := by decide +kernel
theorem dX3_close_57 : decode cX3_close 57 = .ok (.goto (-55), 3) := by decide +kernel
theorem dX3_close_60 : decode cX3_close 60 = .ok (.return_, 1) := by decide +kernel
theorem dX3_link_0 : decode cX3_link 0 = .ok (.iconst 0, 1) := by decide +kernel
theorem dX3_link_1 : decode cX3_link 1 = .ok (.istore 4, 2) := by decide +kernel
theorem dX3_link_3 : decode cX3_link 3 = .ok (.iload 4, 2) := by decide +kernel
theorem dX3_link_5 : decode cX3_link 5 = .ok (.aload_n 0, 1) := by decide +kernel
theorem dX3_link_6 : decode cX3_link 6 = .ok (.getfield 15, 3) := by decide +kernel
theorem dX3_link_9 : decode cX3_link 9 = .ok (.if_icmp .ge 37, 3) := by decide +kernel
theorem dX3_link_12 : decode cX3_link 12 = .ok (.aload_n 0, 1) := by decide +kernel
theorem dX3_link_13 : decode cX3_link 13 = .ok (.iload 4, 2) := by decide +kernel
theorem dX3_link_15 : decode cX3_link 15 = .ok (.iload_n 1, 1) := by decide +kernel
theorem dX3_link_16 : decode cX3_link 16 = .ok (.invokevirtual 32, 3) := by decide +kernel
theorem dX3_link_19 : decode cX3_link 19 = .ok (.ldc 48, 2) := by decide +kernel
theorem dX3_link_21 : decode cX3_link 21 = .ok (.if_icmp .eq 19, 3) := by decide +kernel
theorem dX3_link_24 : decode cX3_link 24 = .ok (.aload_n 0, 1) := by decide +kernel
theorem dX3_link_25 : decode cX3_link 25 = .ok (.iload 4, 2) := by decide +kernel
theorem dX3_link_27 : decode cX3_link 27 = .ok (.aload_n 0, 1) := by decide +kernel
theorem dX3_link_28 : decode cX3_link 28 = .ok (.iload 4, 2) := by decide +kernel
theorem dX3_link_30 : decode cX3_link 30 = .ok (.iload_n 1, 1) := by decide +kernel
theorem dX3_link_31 : decode cX3_link 31 = .ok (.invokevirtual 32, 3) := by decide +kernel
theorem dX3_link_34 : decode cX3_link 34 = .ok (.iload_n 3, 1) := by decide +kernel
theorem dX3_link_35 : decode cX3_link 35 = .ok (.iadd, 1) := by decide +kernel
theorem dX3_link_36 : decode cX3_link 36 = .ok (.iload_n 2, 1) := by decide +kernel
theorem dX3_link_37 : decode cX3_link 37 = .ok (.invokevirtual 61, 3) := by decide +kernel
theorem dX3_link_40 : decode cX3_link 40 = .ok (.iinc 4 1, 3) := by decide +kernel
theorem dX3_link_43 : decode cX3_link 43 = .ok (.goto (-40), 3) := by decide +kernel
theorem dX3_link_46 : decode cX3_link 46 = .ok (.return_, 1) := by decide +kernel
theorem dX3_raiseRow_0 : decode cX3_raiseRow 0 = .ok (.iload_n 1, 1) := by decide +kernel
theorem dX3_raiseRow_1 : decode cX3_raiseRow 1 = .ok (.bipush 8, 2) := by decide +kernel
theorem dX3_raiseRow_3 : decode cX3_raiseRow 3 = .ok (.imul, 1) := by decide +kernel
theorem dX3_raiseRow_4 : decode cX3_raiseRow 4 = .ok (.istore 4, 2) := by decide +kernel
theorem dX3_raiseRow_6 : decode cX3_raiseRow 6 = .ok (.iload_n 3, 1) := by decide +kernel
theorem dX3_raiseRow_7 : decode cX3_raiseRow 7 = .ok (.bipush 8, 2) := by decide +kernel
theorem dX3_raiseRow_9 : decode cX3_raiseRow 9 = .ok (.imul, 1) := by decide +kernel
theorem dX3_raiseRow_10 : decode cX3_raiseRow 10 = .ok (.istore 5, 2) := by decide +kernel
theorem dX3_raiseRow_12 : decode cX3_raiseRow 12 = .ok (.iconst 0, 1) := by decide +kernel
theorem dX3_raiseRow_13 : decode cX3_raiseRow 13 = .ok (.istore 6, 2) := by decide +kernel
theorem dX3_raiseRow_15 : decode cX3_raiseRow 15 = .ok (.iload 6, 2) := by decide +kernel
theorem dX3_raiseRow_17 : decode cX3_raiseRow 17 = .ok (.aload_n 0, 1) := by decide +kernel
theorem dX3_raiseRow_18 : decode cX3_raiseRow 18 = .ok (.getfield 15, 3) := by decide +kernel
theorem dX3_raiseRow_21 : decode cX3_raiseRow 21 = .ok (.if_icmp .ge 59, 3) := by decide +kernel
theorem dX3_raiseRow_24 : decode cX3_raiseRow 24 = .ok (.aload_n 0, 1) := by decide +kernel
theorem dX3_raiseRow_25 : decode cX3_raiseRow 25 = .ok (.getfield 9, 3) := by decide +kernel
theorem dX3_raiseRow_28 : decode cX3_raiseRow 28 = .ok (.iload 5, 2) := by decide +kernel
theorem dX3_raiseRow_30 : decode cX3_raiseRow 30 = .ok (.iload 6, 2) := by decide +kernel
theorem dX3_raiseRow_32 : decode cX3_raiseRow 32 = .ok (.iadd, 1) := by decide +kernel
theorem dX3_raiseRow_33 : decode cX3_raiseRow 33 = .ok (.iaload, 1) := by decide +kernel
theorem dX3_raiseRow_34 : decode cX3_raiseRow 34 = .ok (.istore 7, 2) := by decide +kernel
theorem dX3_raiseRow_36 : decode cX3_raiseRow 36 = .ok (.iload 7, 2) := by decide +kernel
theorem dX3_raiseRow_38 : decode cX3_raiseRow 38 = .ok (.ldc 48, 2) := by decide +kernel
theorem dX3_raiseRow_40 : decode cX3_raiseRow 40 = .ok (.if_icmp .eq 34, 3) := by decide +kernel
theorem dX3_raiseRow_43 : decode cX3_raiseRow 43 = .ok (.iload_n 2, 1) := by decide +kernel
theorem dX3_raiseRow_44 : decode cX3_raiseRow 44 = .ok (.iload 7, 2) := by decide +kernel
theorem dX3_raiseRow_46 : decode cX3_raiseRow 46 = .ok (.iadd, 1) := by decide +kernel
theorem dX3_raiseRow_47 : decode cX3_raiseRow 47 = .ok (.aload_n 0, 1) := by decide +kernel
theorem dX3_raiseRow_48 : decode cX3_raiseRow 48 = .ok (.getfield 9, 3) := by decide +kernel
theorem dX3_raiseRow_51 : decode cX3_raiseRow 51 = .ok (.iload 4, 2) := by decide +kernel
theorem dX3_raiseRow_53 : decode cX3_raiseRow 53 = .ok (.iload 6, 2) := by decide +kernel
theorem dX3_raiseRow_55 : decode cX3_raiseRow 55 = .ok (.iadd, 1) := by decide +kernel
theorem dX3_raiseRow_56 : decode cX3_raiseRow 56 = .ok (.iaload, 1) := by decide +kernel
theorem dX3_raiseRow_57 : decode cX3_raiseRow 57 = .ok (.if_icmp .le 17, 3) := by decide +kernel
theorem dX3_raiseRow_60 : decode cX3_raiseRow 60 = .ok (.aload_n 0, 1) := by decide +kernel
theorem dX3_raiseRow_61 : decode cX3_raiseRow 61 = .ok (.getfield 9, 3) := by decide +kernel
theorem dX3_raiseRow_64 : decode cX3_raiseRow 64 = .ok (.iload 4, 2) := by decide +kernel
theorem dX3_raiseRow_66 : decode cX3_raiseRow 66 = .ok (.iload 6, 2) := by decide +kernel
theorem dX3_raiseRow_68 : decode cX3_raiseRow 68 = .ok (.iadd, 1) := by decide +kernel
theorem dX3_raiseRow_69 : decode cX3_raiseRow 69 = .ok (.iload_n 2, 1) := by decide +kernel
theorem dX3_raiseRow_70 : decode cX3_raiseRow 70 = .ok (.iload 7, 2) := by decide +kernel
theorem dX3_raiseRow_72 : decode cX3_raiseRow 72 = .ok (.iadd, 1) := by decide +kernel
theorem dX3_raiseRow_73 : decode cX3_raiseRow 73 = .ok (.iastore, 1) := by decide +kernel
theorem dX3_raiseRow_74 : decode cX3_raiseRow 74 = .ok (.iinc 6 1, 3) := by decide +kernel
theorem dX3_raiseRow_77 : decode cX3_raiseRow 77 = .ok (.goto (-62), 3) := by decide +kernel
theorem dX3_raiseRow_80 : decode cX3_raiseRow 80 = .ok (.return_, 1) := by decide +kernel
theorem dX4_init_0 : decode cX4_init 0 = .ok (.aload_n 0, 1) := by decide +kernel
theorem dX4_init_1 : decode cX4_init 1 = .ok (.invokespecial 5, 3) := by decide +kernel
theorem dX4_init_4 : decode cX4_init 4 = .ok (.aload_n 0, 1) := by decide +kernel
theorem dX4_init_5 : decode cX4_init 5 = .ok (.new 11, 3) := by decide +kernel
theorem dX4_init_8 : decode cX4_init 8 = .ok (.dup, 1) := by decide +kernel
theorem dX4_init_9 : decode cX4_init 9 = .ok (.invokespecial 13, 3) := by decide +kernel
theorem dX4_init_12 : decode cX4_init 12 = .ok (.putfield 14, 3) := by decide +kernel
theorem dX4_init_15 : decode cX4_init 15 = .ok (.aload_n 0, 1) := by decide +kernel
theorem dX4_init_16 : decode cX4_init 16 = .ok (.bipush 8, 2) := by decide +kernel
theorem dX4_init_18 : decode cX4_init 18 = .ok (.newarray .long, 2) := by decide +kernel
theorem dX4_init_20 : decode cX4_init 20 = .ok (.putfield 18, 3) := by decide +kernel
theorem dX4_init_23 : decode cX4_init 23 = .ok (.aload_n 0, 1) := by decide +kernel
theorem dX4_init_24 : decode cX4_init 24 = .ok (.aload_n 1, 1) := by decide +kernel
theorem dX4_init_25 : decode cX4_init 25 = .ok (.putfield 22, 3) := by decide +kernel
theorem dX4_init_28 : decode cX4_init 28 = .ok (.aload_n 0, 1) := by decide +kernel
theorem dX4_init_29 : decode cX4_init 29 = .ok (.aload_n 2, 1) := by decide +kernel
theorem dX4_init_30 : decode cX4_init 30 = .ok (.putfield 26, 3) := by decide +kernel
theorem dX4_init_33 : decode cX4_init 33 = .ok (.return_, 1) := by decide +kernel
theorem dX4_read_0 : decode cX4_read 0 = .ok (.aload_n 0, 1) := by decide +kernel
theorem dX4_read_1 : decode cX4_read 1 = .ok (.iconst 0, 1) := by decide +kernel
theorem dX4_read_2 : decode cX4_read 2 = .ok (.putfield 30, 3) := by decide +kernel
theorem dX4_read_5 : decode cX4_read 5 = .ok (.aload_n 0, 1) := by decide +kernel
theorem dX4_read_6 : decode cX4_read 6 = .ok (.iconst 0, 1) := by decide +kernel
theorem dX4_read_7 : decode cX4_read 7 = .ok (.putfield 34, 3) := by decide +kernel
theorem dX4_read_10 : decode cX4_read 10 = .ok (.aload_n 0, 1) := by decide +kernel
theorem dX4_read_11 : decode cX4_read 11 = .ok (.aload_n 0, 1) := by decide +kernel
theorem dX4_read_12 : decode cX4_read 12 = .ok (.getfield 22, 3) := by decide +kernel
theorem dX4_read_15 : decode cX4_read 15 = .ok (.getfield 37, 3) := by decide +kernel
theorem dX4_read_18 : decode cX4_read 18 = .ok (.sipush 700, 3) := by decide +kernel
theorem dX4_read_21 : decode cX4_read 21 = .ok (.invokestatic 42, 3) := by decide +kernel
theorem dX4_read_24 : decode cX4_read 24 = .ok (.putfield 48, 3) := by decide +kernel
theorem dX4_read_27 : decode cX4_read 27 = .ok (.aload_n 0, 1) := by decide +kernel
theorem dX4_read_28 : decode cX4_read 28 = .ok (.getfield 14, 3) := by decide +kernel
theorem dX4_read_31 : decode cX4_read 31 = .ok (.invokevirtual 51, 3) := by decide +kernel
theorem dX4_read_34 : decode cX4_read 34 = .ok (.iconst 0, 1) := by decide +kernel
theorem dX4_read_35 : decode cX4_read 35 = .ok (.istore_n 1, 1) := by decide +kernel
theorem dX4_read_36 : decode cX4_read 36 = .ok (.aload_n 0, 1) := by decide +kernel
theorem dX4_read_37 : decode cX4_read 37 = .ok (.invokevirtual 54, 3) := by decide +kernel
theorem dX4_read_40 : decode cX4_read 40 = .ok (.iload_n 1, 1) := by decide +kernel
theorem dX4_read_41 : decode cX4_read 41 = .ok (.sipush 700, 3) := by decide +kernel
theorem dX4_read_44 : decode cX4_read 44 = .ok (.if_icmp .ge 44, 3) := by decide +kernel
theorem dX4_read_47 : decode cX4_read 47 = .ok (.aload_n 0, 1) := by decide +kernel
theorem dX4_read_48 : decode cX4_read 48 = .ok (.getfield 57, 3) := by decide +kernel
theorem dX4_read_51 : decode cX4_read 51 = .ok (.ifCond .eq 37, 3) := by decide +kernel
theorem dX4_read_54 : decode cX4_read 54 = .ok (.aload_n 0, 1) := by decide +kernel
theorem dX4_read_55 : decode cX4_read 55 = .ok (.invokevirtual 60, 3) := by decide +kernel
theorem dX4_read_58 : decode cX4_read 58 = .ok (.ifCond .eq 13, 3) := by decide +kernel
theorem dX4_read_61 : decode cX4_read 61 = .ok (.aload_n 0, 1) := by decide +kernel
theorem dX4_read_62 : decode cX4_read 62 = .ok (.invokevirtual 64, 3) := by decide +kernel
theorem dX4_read_65 : decode cX4_read 65 = .ok (.ifCond .eq 23, 3) := by decide +kernel
theorem dX4_read_68 : decode cX4_read 68 = .ok (.goto 10, 3) := by decide +kernel
theorem dX4_read_71 : decode cX4_read 71 = .ok (.aload_n 0, 1) := by decide +kernel
theorem dX4_read_72 : decode cX4_read 72 = .ok (.invokevirtual 67, 3) := by decide +kernel
theorem dX4_read_75 : decode cX4_read 75 = .ok (.ifCond .eq 13, 3) := by decide +kernel
theorem dX4_read_78 : decode cX4_read 78 = .ok (.iinc 1 1, 3) := by decide +kernel
theorem dX4_read_81 : decode cX4_read 81 = .ok (.aload_n 0, 1) := by decide +kernel
theorem dX4_read_82 : decode cX4_read 82 = .ok (.invokevirtual 54, 3) := by decide +kernel
theorem dX4_read_85 : decode cX4_read 85 = .ok (.goto (-45), 3) := by decide +kernel
theorem dX4_read_88 : decode cX4_read 88 = .ok (.aload_n 0, 1) := by decide +kernel
theorem dX4_read_89 : decode cX4_read 89 = .ok (.getfield 30, 3) := by decide +kernel
theorem dX4_read_92 : decode cX4_read 92 = .ok (.ifCond .ne 25, 3) := by decide +kernel
theorem dX4_read_95 : decode cX4_read 95 = .ok (.aload_n 0, 1) := by decide +kernel
theorem dX4_read_96 : decode cX4_read 96 = .ok (.getfield 22, 3) := by decide +kernel
theorem dX4_read_99 : decode cX4_read 99 = .ok (.getfield 37, 3) := by decide +kernel
theorem dX4_read_102 : decode cX4_read 102 = .ok (.sipush 700, 3) := by decide +kernel
theorem dX4_read_105 : decode cX4_read 105 = .ok (.if_icmp .le 12, 3) := by decide +kernel
theorem dX4_read_108 : decode cX4_read 108 = .ok (.aload_n 0, 1) := by decide +kernel
theorem dX4_read_109 : decode cX4_read 109 = .ok (.iconst 1, 1) := by decide +kernel
theorem dX4_read_110 : decode cX4_read 110 = .ok (.sipush 700, 3) := by decide +kernel
theorem dX4_read_113 : decode cX4_read 113 = .ok (.invokevirtual 70, 3) := by decide +kernel
theorem dX4_read_116 : decode cX4_read 116 = .ok (.pop, 1) := by decide +kernel
theorem dX4_read_117 : decode cX4_read 117 = .ok (.aload_n 0, 1) := by decide +kernel
theorem dX4_read_118 : decode cX4_read 118 = .ok (.getfield 30, 3) := by decide +kernel
theorem dX4_read_121 : decode cX4_read 121 = .ok (.ifCond .ne 7, 3) := by decide +kernel
theorem dX4_read_124 : decode cX4_read 124 = .ok (.iload_n 1, 1) := by decide +kernel
theorem dX4_read_125 : decode cX4_read 125 = .ok (.goto 9, 3) := by decide +kernel
theorem dX4_read_128 : decode cX4_read 128 = .ok (.iconst (-1), 1) := by decide +kernel
theorem dX4_read_129 : decode cX4_read 129 = .ok (.aload_n 0, 1) := by decide +kernel
theorem dX4_read_130 : decode cX4_read 130 = .ok (.getfield 74, 3) := by decide +kernel
theorem dX4_read_133 : decode cX4_read 133 = .ok (.isub, 1) := by decide +kernel
theorem dX4_read_134 : decode cX4_read 134 = .ok (.ireturn, 1) := by decide +kernel
theorem dX4_isItemRow_0 : decode cX4_isItemRow 0 = .ok (.aload_n 0, 1) := by decide +kernel
theorem dX4_isItemRow_1 : decode cX4_isItemRow 1 = .ok (.getfield 57, 3) := by decide +kernel
theorem dX4_isItemRow_4 : decode cX4_isItemRow 4 = .ok (.iconst 1, 1) := by decide +kernel
theorem dX4_isItemRow_5 : decode cX4_isItemRow 5 = .ok (.if_icmp .ne 18, 3) := by decide +kernel
theorem dX4_isItemRow_8 : decode cX4_isItemRow 8 = .ok (.aload_n 0, 1) := by decide +kernel
theorem dX4_isItemRow_9 : decode cX4_isItemRow 9 = .ok (.getfield 77, 3) := by decide +kernel
theorem dX4_isItemRow_12 : decode cX4_isItemRow 12 = .ok (.ldc2_w 81, 3) := by decide +kernel
theorem dX4_isItemRow_15 : decode cX4_isItemRow 15 = .ok (.lcmp, 1) := by decide +kernel
theorem dX4_isItemRow_16 : decode cX4_isItemRow 16 = .ok (.ifCond .ne 7, 3) := by decide +kernel
theorem dX4_isItemRow_19 : decode cX4_isItemRow 19 = .ok (.iconst 1, 1) := by decide +kernel
theorem dX4_isItemRow_20 : decode cX4_isItemRow 20 = .ok (.goto 4, 3) := by decide +kernel
theorem dX4_isItemRow_23 : decode cX4_isItemRow 23 = .ok (.iconst 0, 1) := by decide +kernel
theorem dX4_isItemRow_24 : decode cX4_isItemRow 24 = .ok (.ireturn, 1) := by decide +kernel
theorem dX4_readItem_0 : decode cX4_readItem 0 = .ok (.aload_n 0, 1) := by decide +kernel
theorem dX4_readItem_1 : decode cX4_readItem 1 = .ok (.getfield 14, 3) := by decide +kernel
theorem dX4_readItem_4 : decode cX4_readItem 4 = .ok (.getfield 83, 3) := by decide +kernel
theorem dX4_readItem_7 : decode cX4_readItem 7 = .ok (.bipush 8, 2) := by decide +kernel
theorem dX4_readItem_9 : decode cX4_readItem 9 = .ok (.if_icmp .lt 13, 3) := by decide +kernel
theorem dX4_readItem_12 : decode cX4_readItem 12 = .ok (.aload_n 0, 1) := by decide +kernel
theorem dX4_readItem_13 : decode cX4_readItem 13 = .ok (.iconst 3, 1) := by decide +kernel
theorem dX4_readItem_14 : decode cX4_readItem 14 = .ok (.aload_n 0, 1) := by decide +kernel
theorem dX4_readItem_15 : decode cX4_readItem 15 = .ok (.getfield 86, 3) := by decide +kernel
theorem dX4_readItem_18 : decode cX4_readItem 18 = .ok (.invokevirtual 70, 3) := by decide +kernel
theorem dX4_readItem_21 : decode cX4_readItem 21 = .ok (.ireturn, 1) := by decide +kernel
theorem dX4_readItem_22 : decode cX4_readItem 22 = .ok (.aload_n 0, 1) := by decide +kernel
theorem dX4_readItem_23 : decode cX4_readItem 23 = .ok (.invokevirtual 54, 3) := by decide +kernel
theorem dX4_readItem_26 : decode cX4_readItem 26 = .ok (.aload_n 0, 1) := by decide +kernel
theorem dX4_readItem_27 : decode cX4_readItem 27 = .ok (.invokevirtual 89, 3) := by decide +kernel
theorem dX4_readItem_30 : decode cX4_readItem 30 = .ok (.ifCond .ne 13, 3) := by decide +kernel
theorem dX4_readItem_33 : decode cX4_readItem 33 = .ok (.aload_n 0, 1) := by decide +kernel
theorem dX4_readItem_34 : decode cX4_readItem 34 = .ok (.iconst 1, 1) := by decide +kernel
theorem dX4_readItem_35 : decode cX4_readItem 35 = .ok (.aload_n 0, 1) := by decide +kernel
theorem dX4_readItem_36 : decode cX4_readItem 36 = .ok (.getfield 86, 3) := by decide +kernel
theorem dX4_readItem_39 : decode cX4_readItem 39 = .ok (.invokevirtual 70, 3) := by decide +kernel
theorem dX4_readItem_42 : decode cX4_readItem 42 = .ok (.ireturn, 1) := by decide +kernel
theorem dX4_readItem_43 : decode cX4_readItem 43 = .ok (.aload_n 0, 1) := by decide +kernel
theorem dX4_readItem_44 : decode cX4_readItem 44 = .ok (.invokevirtual 92, 3) := by decide +kernel
theorem dX4_readItem_47 : decode cX4_readItem 47 = .ok (.iconst (-1), 1) := by decide +kernel
theorem dX4_readItem_48 : decode cX4_readItem 48 = .ok (.if_icmp .eq 13, 3) := by decide +kernel
theorem dX4_readItem_51 : decode cX4_readItem 51 = .ok (.aload_n 0, 1) := by decide +kernel
theorem dX4_readItem_52 : decode cX4_readItem 52 = .ok (.iconst 2, 1) := by decide +kernel
theorem dX4_readItem_53 : decode cX4_readItem 53 = .ok (.aload_n 0, 1) := by decide +kernel
theorem dX4_readItem_54 : decode cX4_readItem 54 = .ok (.getfield 86, 3) := by decide +kernel
theorem dX4_readItem_57 : decode cX4_readItem 57 = .ok (.invokevirtual 70, 3) := by decide +kernel
theorem dX4_readItem_60 : decode cX4_readItem 60 = .ok (.ireturn, 1) := by decide +kernel
theorem dX4_readItem_61 : decode cX4_readItem 61 = .ok (.aload_n 0, 1) := by decide +kernel
theorem dX4_readItem_62 : decode cX4_readItem 62 = .ok (.getfield 18, 3) := by decide +kernel
theorem dX4_readItem_65 : decode cX4_readItem 65 = .ok (.aload_n 0, 1) := by decide +kernel
theorem dX4_readItem_66 : decode cX4_readItem 66 = .ok (.getfield 14, 3) := by decide +kernel
theorem dX4_readItem_69 : decode cX4_readItem 69 = .ok (.getfield 83, 3) := by decide +kernel
theorem dX4_readItem_72 : decode cX4_readItem 72 = .ok (.aload_n 0, 1) := by decide +kernel
theorem dX4_readItem_73 : decode cX4_readItem 73 = .ok (.getfield 77, 3) := by decide +kernel
theorem dX4_readItem_76 : decode cX4_readItem 76 = .ok (.lastore, 1) := by decide +kernel
theorem dX4_readItem_77 : decode cX4_readItem 77 = .ok (.aload_n 0, 1) := by decide +kernel
theorem dX4_readItem_78 : decode cX4_readItem 78 = .ok (.getfield 14, 3) := by decide +kernel
theorem dX4_readItem_81 : decode cX4_readItem 81 = .ok (.dup, 1) := by decide +kernel
theorem dX4_readItem_82 : decode cX4_readItem 82 = .ok (.getfield 83, 3) := by decide +kernel
theorem dX4_readItem_85 : decode cX4_readItem 85 = .ok (.iconst 1, 1) := by decide +kernel
theorem dX4_readItem_86 : decode cX4_readItem 86 = .ok (.iadd, 1) := by decide +kernel
theorem dX4_readItem_87 : decode cX4_readItem 87 = .ok (.putfield 83, 3) := by decide +kernel
theorem dX4_readItem_90 : decode cX4_readItem 90 = .ok (.aload_n 0, 1) := by decide +kernel
theorem dX4_readItem_91 : decode cX4_readItem 91 = .ok (.invokevirtual 96, 3) := by decide +kernel
theorem dX4_readItem_94 : decode cX4_readItem 94 = .ok (.ireturn, 1) := by decide +kernel
theorem dX4_readFact_0 : decode cX4_readFact 0 = .ok (.aload_n 0, 1) := by decide +kernel
theorem dX4_readFact_1 : decode cX4_readFact 1 = .ok (.getfield 86, 3) := by decide +kernel
theorem dX4_readFact_4 : decode cX4_readFact 4 = .ok (.istore_n 1, 1) := by decide +kernel
theorem dX4_readFact_5 : decode cX4_readFact 5 = .ok (.aload_n 0, 1) := by decide +kernel
theorem dX4_readFact_6 : decode cX4_readFact 6 = .ok (.invokevirtual 89, 3) := by decide +kernel
theorem dX4_readFact_9 : decode cX4_readFact 9 = .ok (.ifCond .ne 13, 3) := by decide +kernel
theorem dX4_readFact_12 : decode cX4_readFact 12 = .ok (.aload_n 0, 1) := by decide +kernel
theorem dX4_readFact_13 : decode cX4_readFact 13 = .ok (.iconst 1, 1) := by decide +kernel
theorem dX4_readFact_14 : decode cX4_readFact 14 = .ok (.aload_n 0, 1) := by decide +kernel
theorem dX4_readFact_15 : decode cX4_readFact 15 = .ok (.getfield 86, 3) := by decide +kernel
theorem dX4_readFact_18 : decode cX4_readFact 18 = .ok (.invokevirtual 70, 3) := by decide +kernel
theorem dX4_readFact_21 : decode cX4_readFact 21 = .ok (.ireturn, 1) := by decide +kernel
theorem dX4_readFact_22 : decode cX4_readFact 22 = .ok (.aload_n 0, 1) := by decide +kernel
theorem dX4_readFact_23 : decode cX4_readFact 23 = .ok (.invokevirtual 92, 3) := by decide +kernel
theorem dX4_readFact_26 : decode cX4_readFact 26 = .ok (.istore_n 2, 1) := by decide +kernel
theorem dX4_readFact_27 : decode cX4_readFact 27 = .ok (.iload_n 2, 1) := by decide +kernel
theorem dX4_readFact_28 : decode cX4_readFact 28 = .ok (.iconst (-1), 1) := by decide +kernel
theorem dX4_readFact_29 : decode cX4_readFact 29 = .ok (.if_icmp .ne 13, 3) := by decide +kernel
theorem dX4_readFact_32 : decode cX4_readFact 32 = .ok (.aload_n 0, 1) := by decide +kernel
theorem dX4_readFact_33 : decode cX4_readFact 33 = .ok (.iconst 2, 1) := by decide +kernel
theorem dX4_readFact_34 : decode cX4_readFact 34 = .ok (.aload_n 0, 1) := by decide +kernel
theorem dX4_readFact_35 : decode cX4_readFact 35 = .ok (.getfield 86, 3) := by decide +kernel
theorem dX4_readFact_38 : decode cX4_readFact 38 = .ok (.invokevirtual 70, 3) := by decide +kernel
theorem dX4_readFact_41 : decode cX4_readFact 41 = .ok (.ireturn, 1) := by decide +kernel
theorem dX4_readFact_42 : decode cX4_readFact 42 = .ok (.aload_n 0, 1) := by decide +kernel
theorem dX4_readFact_43 : decode cX4_readFact 43 = .ok (.invokevirtual 54, 3) := by decide +kernel
theorem dX4_readFact_46 : decode cX4_readFact 46 = .ok (.aload_n 0, 1) := by decide +kernel
theorem dX4_readFact_47 : decode cX4_readFact 47 = .ok (.getfield 57, 3) := by decide +kernel
theorem dX4_readFact_50 : decode cX4_readFact 50 = .ok (.iconst 1, 1) := by decide +kernel
theorem dX4_readFact_51 : decode cX4_readFact 51 = .ok (.if_icmp .ne 25, 3) := by decide +kernel
theorem dX4_readFact_54 : decode cX4_readFact 54 = .ok (.aload_n 0, 1) := by decide +kernel
theorem dX4_readFact_55 : decode cX4_readFact 55 = .ok (.getfield 77, 3) := by decide +kernel
theorem dX4_readFact_58 : decode cX4_readFact 58 = .ok (.ldc2_w 99, 3) := by decide +kernel
theorem dX4_readFact_61 : decode cX4_readFact 61 = .ok (.lcmp, 1) := by decide +kernel
theorem dX4_readFact_62 : decode cX4_readFact 62 = .ok (.ifCond .eq 24, 3) := by decide +kernel
theorem dX4_readFact_65 : decode cX4_readFact 65 = .ok (.aload_n 0, 1) := by decide +kernel
theorem dX4_readFact_66 : decode cX4_readFact 66 = .ok (.getfield 77, 3) := by decide +kernel
theorem dX4_readFact_69 : decode cX4_readFact 69 = .ok (.ldc2_w 101, 3) := by decide +kernel
theorem dX4_readFact_72 : decode cX4_readFact 72 = .ok (.lcmp, 1) := by decide +kernel
theorem dX4_readFact_73 : decode cX4_readFact 73 = .ok (.ifCond .eq 13, 3) := by decide +kernel
theorem dX4_readFact_76 : decode cX4_readFact 76 = .ok (.aload_n 0, 1) := by decide +kernel
theorem dX4_readFact_77 : decode cX4_readFact 77 = .ok (.iconst 1, 1) := by decide +kernel
theorem dX4_readFact_78 : decode cX4_readFact 78 = .ok (.aload_n 0, 1) := by decide +kernel
theorem dX4_readFact_79 : decode cX4_readFact 79 = .ok (.getfield 86, 3) := by decide +kernel
theorem dX4_readFact_82 : decode cX4_readFact 82 = .ok (.invokevirtual 70, 3) := by decide +kernel
theorem dX4_readFact_85 : decode cX4_readFact 85 = .ok (.ireturn, 1) := by decide +kernel
theorem dX4_readFact_86 : decode cX4_readFact 86 = .ok (.aload_n 0, 1) := by decide +kernel
theorem dX4_readFact_87 : decode cX4_readFact 87 = .ok (.getfield 77, 3) := by decide +kernel
theorem dX4_readFact_90 : decode cX4_readFact 90 = .ok (.ldc2_w 99, 3) := by decide +kernel
theorem dX4_readFact_93 : decode cX4_readFact 93 = .ok (.lcmp, 1) := by decide +kernel
theorem dX4_readFact_94 : decode cX4_readFact 94 = .ok (.ifCond .ne 7, 3) := by decide +kernel
theorem dX4_readFact_97 : decode cX4_readFact 97 = .ok (.iconst 0, 1) := by decide +kernel
theorem dX4_readFact_98 : decode cX4_readFact 98 = .ok (.goto 4, 3) := by decide +kernel
theorem dX4_readFact_101 : decode cX4_readFact 101 = .ok (.iconst 1, 1) := by decide +kernel
theorem dX4_readFact_102 : decode cX4_readFact 102 = .ok (.istore_n 3, 1) := by decide +kernel
theorem dX4_readFact_103 : decode cX4_readFact 103 = .ok (.aload_n 0, 1) := by decide +kernel
theorem dX4_readFact_104 : decode cX4_readFact 104 = .ok (.invokevirtual 54, 3) := by decide +kernel
theorem dX4_readFact_107 : decode cX4_readFact 107 = .ok (.aload_n 0, 1) := by decide +kernel
theorem dX4_readFact_108 : decode cX4_readFact 108 = .ok (.invokevirtual 89, 3) := by decide +kernel
theorem dX4_readFact_111 : decode cX4_readFact 111 = .ok (.ifCond .ne 13, 3) := by decide +kernel
theorem dX4_readFact_114 : decode cX4_readFact 114 = .ok (.aload_n 0, 1) := by decide +kernel
theorem dX4_readFact_115 : decode cX4_readFact 115 = .ok (.iconst 1, 1) := by decide +kernel
theorem dX4_readFact_116 : decode cX4_readFact 116 = .ok (.aload_n 0, 1) := by decide +kernel
theorem dX4_readFact_117 : decode cX4_readFact 117 = .ok (.getfield 86, 3) := by decide +kernel
theorem dX4_readFact_120 : decode cX4_readFact 120 = .ok (.invokevirtual 70, 3) := by decide +kernel
theorem dX4_readFact_123 : decode cX4_readFact 123 = .ok (.ireturn, 1) := by decide +kernel
theorem dX4_readFact_124 : decode cX4_readFact 124 = .ok (.aload_n 0, 1) := by decide +kernel
theorem dX4_readFact_125 : decode cX4_readFact 125 = .ok (.invokevirtual 92, 3) := by decide +kernel
theorem dX4_readFact_128 : decode cX4_readFact 128 = .ok (.istore 4, 2) := by decide +kernel
theorem dX4_readFact_130 : decode cX4_readFact 130 = .ok (.iload 4, 2) := by decide +kernel
theorem dX4_readFact_132 : decode cX4_readFact 132 = .ok (.iconst (-1), 1) := by decide +kernel
theorem dX4_readFact_133 : decode cX4_readFact 133 = .ok (.if_icmp .eq 23, 3) := by decide +kernel
theorem dX4_readFact_136 : decode cX4_readFact 136 = .ok (.iload 4, 2) := by decide +kernel
theorem dX4_readFact_138 : decode cX4_readFact 138 = .ok (.iload_n 2, 1) := by decide +kernel
theorem dX4_readFact_139 : decode cX4_readFact 139 = .ok (.if_icmp .eq 17, 3) := by decide +kernel
theorem dX4_readFact_142 : decode cX4_readFact 142 = .ok (.aload_n 0, 1) := by decide +kernel
theorem dX4_readFact_143 : decode cX4_readFact 143 = .ok (.getfield 14, 3) := by decide +kernel
theorem dX4_readFact_146 : decode cX4_readFact 146 = .ok (.iload_n 2, 1) := by decide +kernel
theorem dX4_readFact_147 : decode cX4_readFact 147 = .ok (.iload 4, 2) := by decide +kernel
theorem dX4_readFact_149 : decode cX4_readFact 149 = .ok (.invokevirtual 103, 3) := by decide +kernel
theorem dX4_readFact_152 : decode cX4_readFact 152 = .ok (.iconst (-1), 1) := by decide +kernel
theorem dX4_readFact_153 : decode cX4_readFact 153 = .ok (.if_icmp .eq 13, 3) := by decide +kernel
theorem dX4_readFact_156 : decode cX4_readFact 156 = .ok (.aload_n 0, 1) := by decide +kernel
theorem dX4_readFact_157 : decode cX4_readFact 157 = .ok (.iconst 2, 1) := by decide +kernel
theorem dX4_readFact_158 : decode cX4_readFact 158 = .ok (.aload_n 0, 1) := by decide +kernel
theorem dX4_readFact_159 : decode cX4_readFact 159 = .ok (.getfield 86, 3) := by decide +kernel
theorem dX4_readFact_162 : decode cX4_readFact 162 = .ok (.invokevirtual 70, 3) := by decide +kernel
theorem dX4_readFact_165 : decode cX4_readFact 165 = .ok (.ireturn, 1) := by decide +kernel
theorem dX4_readFact_166 : decode cX4_readFact 166 = .ok (.aload_n 0, 1) := by decide +kernel
theorem dX4_readFact_167 : decode cX4_readFact 167 = .ok (.invokevirtual 96, 3) := by decide +kernel
theorem dX4_readFact_170 : decode cX4_readFact 170 = .ok (.ifCond .ne 5, 3) := by decide +kernel
theorem dX4_readFact_173 : decode cX4_readFact 173 = .ok (.iconst 0, 1) := by decide +kernel
theorem dX4_readFact_174 : decode cX4_readFact 174 = .ok (.ireturn, 1) := by decide +kernel
theorem dX4_readFact_175 : decode cX4_readFact 175 = .ok (.aload_n 0, 1) := by decide +kernel
theorem dX4_readFact_176 : decode cX4_readFact 176 = .ok (.getfield 26, 3) := by decide +kernel
theorem dX4_readFact_179 : decode cX4_readFact 179 = .ok (.aload_n 0, 1) := by decide +kernel
theorem dX4_readFact_180 : decode cX4_readFact 180 = .ok (.getfield 14, 3) := by decide +kernel
theorem dX4_readFact_183 : decode cX4_readFact 183 = .ok (.iconst 0, 1) := by decide +kernel
theorem dX4_readFact_184 : decode cX4_readFact 184 = .ok (.iload_n 3, 1) := by decide +kernel
theorem dX4_readFact_185 : decode cX4_readFact 185 = .ok (.iload_n 2, 1) := by decide +kernel
theorem dX4_readFact_186 : decode cX4_readFact 186 = .ok (.iload 4, 2) := by decide +kernel
theorem dX4_readFact_188 : decode cX4_readFact 188 = .ok (.invokevirtual 106, 3) := by decide +kernel
theorem dX4_readFact_191 : decode cX4_readFact 191 = .ok (.ifCond .eq 10, 3) := by decide +kernel
theorem dX4_readFact_194 : decode cX4_readFact 194 = .ok (.aload_n 0, 1) := by decide +kernel
theorem dX4_readFact_195 : decode cX4_readFact 195 = .ok (.iconst 4, 1) := by decide +kernel
theorem dX4_readFact_196 : decode cX4_readFact 196 = .ok (.iload_n 1, 1) := by decide +kernel
theorem dX4_readFact_197 : decode cX4_readFact 197 = .ok (.invokevirtual 70, 3) := by decide +kernel
theorem dX4_readFact_200 : decode cX4_readFact 200 = .ok (.ireturn, 1) := by decide +kernel
theorem dX4_readFact_201 : decode cX4_readFact 201 = .ok (.aload_n 0, 1) := by decide +kernel
theorem dX4_readFact_202 : decode cX4_readFact 202 = .ok (.getfield 14, 3) := by decide +kernel
theorem dX4_readFact_205 : decode cX4_readFact 205 = .ok (.iload_n 3, 1) := by decide +kernel
theorem dX4_readFact_206 : decode cX4_readFact 206 = .ok (.iload_n 2, 1) := by decide +kernel
theorem dX4_readFact_207 : decode cX4_readFact 207 = .ok (.iload 4, 2) := by decide +kernel
theorem dX4_readFact_209 : decode cX4_readFact 209 = .ok (.invokevirtual 112, 3) := by decide +kernel
theorem dX4_readFact_212 : decode cX4_readFact 212 = .ok (.iconst 1, 1) := by decide +kernel
theorem dX4_readFact_213 : decode cX4_readFact 213 = .ok (.ireturn, 1) := by decide +kernel
theorem dX4_readStop_0 : decode cX4_readStop 0 = .ok (.aload_n 0, 1) := by decide +kernel
theorem dX4_readStop_1 : decode cX4_readStop 1 = .ok (.invokevirtual 54, 3) := by decide +kernel
theorem dX4_readStop_4 : decode cX4_readStop 4 = .ok (.aload_n 0, 1) := by decide +kernel
theorem dX4_readStop_5 : decode cX4_readStop 5 = .ok (.getfield 57, 3) := by decide +kernel
theorem dX4_readStop_8 : decode cX4_readStop 8 = .ok (.iconst 2, 1) := by decide +kernel
theorem dX4_readStop_9 : decode cX4_readStop 9 = .ok (.if_icmp .eq 15, 3) := by decide +kernel
theorem dX4_readStop_12 : decode cX4_readStop 12 = .ok (.aload_n 0, 1) := by decide +kernel
theorem dX4_readStop_13 : decode cX4_readStop 13 = .ok (.iconst 1, 1) := by decide +kernel
theorem dX4_readStop_14 : decode cX4_readStop 14 = .ok (.aload_n 0, 1) := by decide +kernel
theorem dX4_readStop_15 : decode cX4_readStop 15 = .ok (.getfield 86, 3) := by decide +kernel
theorem dX4_readStop_18 : decode cX4_readStop 18 = .ok (.invokevirtual 70, 3) := by decide +kernel
theorem dX4_readStop_21 : decode cX4_readStop 21 = .ok (.ifCond .eq 7, 3) := by decide +kernel
theorem dX4_readStop_24 : decode cX4_readStop 24 = .ok (.iconst 1, 1) := by decide +kernel
theorem dX4_readStop_25 : decode cX4_readStop 25 = .ok (.goto 4, 3) := by decide +kernel
theorem dX4_readStop_28 : decode cX4_readStop 28 = .ok (.iconst 0, 1) := by decide +kernel
theorem dX4_readStop_29 : decode cX4_readStop 29 = .ok (.ireturn, 1) := by decide +kernel
theorem dX4_isName_0 : decode cX4_isName 0 = .ok (.aload_n 0, 1) := by decide +kernel
theorem dX4_isName_1 : decode cX4_isName 1 = .ok (.getfield 57, 3) := by decide +kernel
theorem dX4_isName_4 : decode cX4_isName 4 = .ok (.iconst 1, 1) := by decide +kernel
theorem dX4_isName_5 : decode cX4_isName 5 = .ok (.if_icmp .ne 40, 3) := by decide +kernel
theorem dX4_isName_8 : decode cX4_isName 8 = .ok (.aload_n 0, 1) := by decide +kernel
theorem dX4_isName_9 : decode cX4_isName 9 = .ok (.getfield 77, 3) := by decide +kernel
theorem dX4_isName_12 : decode cX4_isName 12 = .ok (.ldc2_w 81, 3) := by decide +kernel
theorem dX4_isName_15 : decode cX4_isName 15 = .ok (.lcmp, 1) := by decide +kernel
theorem dX4_isName_16 : decode cX4_isName 16 = .ok (.ifCond .eq 29, 3) := by decide +kernel
theorem dX4_isName_19 : decode cX4_isName 19 = .ok (.aload_n 0, 1) := by decide +kernel
theorem dX4_isName_20 : decode cX4_isName 20 = .ok (.getfield 77, 3) := by decide +kernel
theorem dX4_isName_23 : decode cX4_isName 23 = .ok (.ldc2_w 99, 3) := by decide +kernel
theorem dX4_isName_26 : decode cX4_isName 26 = .ok (.lcmp, 1) := by decide +kernel
theorem dX4_isName_27 : decode cX4_isName 27 = .ok (.ifCond .eq 18, 3) := by decide +kernel
theorem dX4_isName_30 : decode cX4_isName 30 = .ok (.aload_n 0, 1) := by decide +kernel
theorem dX4_isName_31 : decode cX4_isName 31 = .ok (.getfield 77, 3) := by decide +kernel
theorem dX4_isName_34 : decode cX4_isName 34 = .ok (.ldc2_w 101, 3) := by decide +kernel
theorem dX4_isName_37 : decode cX4_isName 37 = .ok (.lcmp, 1) := by decide +kernel
theorem dX4_isName_38 : decode cX4_isName 38 = .ok (.ifCond .eq 7, 3) := by decide +kernel
theorem dX4_isName_41 : decode cX4_isName 41 = .ok (.iconst 1, 1) := by decide +kernel
theorem dX4_isName_42 : decode cX4_isName 42 = .ok (.goto 4, 3) := by decide +kernel
theorem dX4_isName_45 : decode cX4_isName 45 = .ok (.iconst 0, 1) := by decide +kernel
theorem dX4_isName_46 : decode cX4_isName 46 = .ok (.ireturn, 1) := by decide +kernel
theorem dX4_itemNamed_0 : decode cX4_itemNamed 0 = .ok (.iconst 0, 1) := by decide +kernel
theorem dX4_itemNamed_1 : decode cX4_itemNamed 1 = .ok (.istore_n 1, 1) := by decide +kernel
theorem dX4_itemNamed_2 : decode cX4_itemNamed 2 = .ok (.iload_n 1, 1) := by decide +kernel
theorem dX4_itemNamed_3 : decode cX4_itemNamed 3 = .ok (.aload_n 0, 1) := by decide +kernel
theorem dX4_itemNamed_4 : decode cX4_itemNamed 4 = .ok (.getfield 14, 3) := by decide +kernel
theorem dX4_itemNamed_7 : decode cX4_itemNamed 7 = .ok (.getfield 83, 3) := by decide +kernel
theorem dX4_itemNamed_10 : decode cX4_itemNamed 10 = .ok (.if_icmp .ge 25, 3) := by decide +kernel
theorem dX4_itemNamed_13 : decode cX4_itemNamed 13 = .ok (.aload_n 0, 1) := by decide +kernel
theorem dX4_itemNamed_14 : decode cX4_itemNamed 14 = .ok (.getfield 18, 3) := by decide +kernel
theorem dX4_itemNamed_17 : decode cX4_itemNamed 17 = .ok (.iload_n 1, 1) := by decide +kernel
theorem dX4_itemNamed_18 : decode cX4_itemNamed 18 = .ok (.laload, 1) := by decide +kernel
theorem dX4_itemNamed_19 : decode cX4_itemNamed 19 = .ok (.aload_n 0, 1) := by decide +kernel
theorem dX4_itemNamed_20 : decode cX4_itemNamed 20 = .ok (.getfield 77, 3) := by decide +kernel
theorem dX4_itemNamed_23 : decode cX4_itemNamed 23 = .ok (.lcmp, 1) := by decide +kernel
theorem dX4_itemNamed_24 : decode cX4_itemNamed 24 = .ok (.ifCond .ne 5, 3) := by decide +kernel
theorem dX4_itemNamed_27 : decode cX4_itemNamed 27 = .ok (.iload_n 1, 1) := by decide +kernel
theorem dX4_itemNamed_28 : decode cX4_itemNamed 28 = .ok (.ireturn, 1) := by decide +kernel
theorem dX4_itemNamed_29 : decode cX4_itemNamed 29 = .ok (.iinc 1 1, 3) := by decide +kernel
theorem dX4_itemNamed_32 : decode cX4_itemNamed 32 = .ok (.goto (-30), 3) := by decide +kernel
theorem dX4_itemNamed_35 : decode cX4_itemNamed 35 = .ok (.iconst (-1), 1) := by decide +kernel
theorem dX4_itemNamed_36 : decode cX4_itemNamed 36 = .ok (.ireturn, 1) := by decide +kernel
theorem dX4_fail_0 : decode cX4_fail 0 = .ok (.aload_n 0, 1) := by decide +kernel
theorem dX4_fail_1 : decode cX4_fail 1 = .ok (.iload_n 1, 1) := by decide +kernel
theorem dX4_fail_2 : decode cX4_fail 2 = .ok (.putfield 30, 3) := by decide +kernel
theorem dX4_fail_5 : decode cX4_fail 5 = .ok (.aload_n 0, 1) := by decide +kernel
theorem dX4_fail_6 : decode cX4_fail 6 = .ok (.iload_n 2, 1) := by decide +kernel
theorem dX4_fail_7 : decode cX4_fail 7 = .ok (.putfield 74, 3) := by decide +kernel
theorem dX4_fail_10 : decode cX4_fail 10 = .ok (.iconst 0, 1) := by decide +kernel
theorem dX4_fail_11 : decode cX4_fail 11 = .ok (.ireturn, 1) := by decide +kernel
theorem dX4_step_0 : decode cX4_step 0 = .ok (.aload_n 0, 1) := by decide +kernel
theorem dX4_step_1 : decode cX4_step 1 = .ok (.getfield 34, 3) := by decide +kernel
theorem dX4_step_4 : decode cX4_step 4 = .ok (.aload_n 0, 1) := by decide +kernel
theorem dX4_step_5 : decode cX4_step 5 = .ok (.getfield 48, 3) := by decide +kernel
theorem dX4_step_8 : decode cX4_step 8 = .ok (.if_icmp .ge 34, 3) := by decide +kernel
theorem dX4_step_11 : decode cX4_step 11 = .ok (.aload_n 0, 1) := by decide +kernel
theorem dX4_step_12 : decode cX4_step 12 = .ok (.getfield 22, 3) := by decide +kernel
theorem dX4_step_15 : decode cX4_step 15 = .ok (.getfield 116, 3) := by decide +kernel
theorem dX4_step_18 : decode cX4_step 18 = .ok (.aload_n 0, 1) := by decide +kernel
theorem dX4_step_19 : decode cX4_step 19 = .ok (.getfield 34, 3) := by decide +kernel
theorem dX4_step_22 : decode cX4_step 22 = .ok (.iaload, 1) := by decide +kernel
theorem dX4_step_23 : decode cX4_step 23 = .ok (.invokestatic 120, 3) := by decide +kernel
theorem dX4_step_26 : decode cX4_step 26 = .ok (.ifCond .eq 16, 3) := by decide +kernel
theorem dX4_step_29 : decode cX4_step 29 = .ok (.aload_n 0, 1) := by decide +kernel
theorem dX4_step_30 : decode cX4_step 30 = .ok (.dup, 1) := by decide +kernel
theorem dX4_step_31 : decode cX4_step 31 = .ok (.getfield 34, 3) := by decide +kernel
theorem dX4_step_34 : decode cX4_step 34 = .ok (.iconst 1, 1) := by decide +kernel
theorem dX4_step_35 : decode cX4_step 35 = .ok (.iadd, 1) := by decide +kernel
theorem dX4_step_36 : decode cX4_step 36 = .ok (.putfield 34, 3) := by decide +kernel
theorem dX4_step_39 : decode cX4_step 39 = .ok (.goto (-39), 3) := by decide +kernel
theorem dX4_step_42 : decode cX4_step 42 = .ok (.aload_n 0, 1) := by decide +kernel
theorem dX4_step_43 : decode cX4_step 43 = .ok (.getfield 34, 3) := by decide +kernel
theorem dX4_step_46 : decode cX4_step 46 = .ok (.aload_n 0, 1) := by decide +kernel
theorem dX4_step_47 : decode cX4_step 47 = .ok (.getfield 48, 3) := by decide +kernel
theorem dX4_step_50 : decode cX4_step 50 = .ok (.if_icmp .lt 17, 3) := by decide +kernel
theorem dX4_step_53 : decode cX4_step 53 = .ok (.aload_n 0, 1) := by decide +kernel
theorem dX4_step_54 : decode cX4_step 54 = .ok (.iconst 0, 1) := by decide +kernel
theorem dX4_step_55 : decode cX4_step 55 = .ok (.putfield 57, 3) := by decide +kernel
theorem dX4_step_58 : decode cX4_step 58 = .ok (.aload_n 0, 1) := by decide +kernel
theorem dX4_step_59 : decode cX4_step 59 = .ok (.aload_n 0, 1) := by decide +kernel
theorem dX4_step_60 : decode cX4_step 60 = .ok (.getfield 48, 3) := by decide +kernel
theorem dX4_step_63 : decode cX4_step 63 = .ok (.putfield 86, 3) := by decide +kernel
theorem dX4_step_66 : decode cX4_step 66 = .ok (.return_, 1) := by decide +kernel
theorem dX4_step_67 : decode cX4_step 67 = .ok (.aload_n 0, 1) := by decide +kernel
theorem dX4_step_68 : decode cX4_step 68 = .ok (.aload_n 0, 1) := by decide +kernel
theorem dX4_step_69 : decode cX4_step 69 = .ok (.getfield 34, 3) := by decide +kernel
theorem dX4_step_72 : decode cX4_step 72 = .ok (.putfield 86, 3) := by decide +kernel
theorem dX4_step_75 : decode cX4_step 75 = .ok (.aload_n 0, 1) := by decide +kernel
theorem dX4_step_76 : decode cX4_step 76 = .ok (.getfield 22, 3) := by decide +kernel
theorem dX4_step_79 : decode cX4_step 79 = .ok (.getfield 116, 3) := by decide +kernel
theorem dX4_step_82 : decode cX4_step 82 = .ok (.aload_n 0, 1) := by decide +kernel
theorem dX4_step_83 : decode cX4_step 83 = .ok (.getfield 34, 3) := by decide +kernel
theorem dX4_step_86 : decode cX4_step 86 = .ok (.iaload, 1) := by decide +kernel
theorem dX4_step_87 : decode cX4_step 87 = .ok (.invokestatic 124, 3) := by decide +kernel
theorem dX4_step_90 : decode cX4_step 90 = .ok (.ifCond .eq 10, 3) := by decide +kernel
theorem dX4_step_93 : decode cX4_step 93 = .ok (.aload_n 0, 1) := by decide +kernel
theorem dX4_step_94 : decode cX4_step 94 = .ok (.invokevirtual 127, 3) := by decide +kernel
theorem dX4_step_97 : decode cX4_step 97 = .ok (.goto 39, 3) := by decide +kernel
theorem dX4_step_100 : decode cX4_step 100 = .ok (.aload_n 0, 1) := by decide +kernel
theorem dX4_step_101 : decode cX4_step 101 = .ok (.aload_n 0, 1) := by decide +kernel
theorem dX4_step_102 : decode cX4_step 102 = .ok (.getfield 22, 3) := by decide +kernel
theorem dX4_step_105 : decode cX4_step 105 = .ok (.getfield 116, 3) := by decide +kernel
theorem dX4_step_108 : decode cX4_step 108 = .ok (.aload_n 0, 1) := by decide +kernel
theorem dX4_step_109 : decode cX4_step 109 = .ok (.getfield 34, 3) := by decide +kernel
theorem dX4_step_112 : decode cX4_step 112 = .ok (.iaload, 1) := by decide +kernel
theorem dX4_step_113 : decode cX4_step 113 = .ok (.bipush 59, 2) := by decide +kernel
theorem dX4_step_115 : decode cX4_step 115 = .ok (.if_icmp .ne 7, 3) := by decide +kernel
theorem dX4_step_118 : decode cX4_step 118 = .ok (.iconst 2, 1) := by decide +kernel
theorem dX4_step_119 : decode cX4_step 119 = .ok (.goto 4, 3) := by decide +kernel
theorem dX4_step_122 : decode cX4_step 122 = .ok (.iconst 3, 1) := by decide +kernel
theorem dX4_step_123 : decode cX4_step 123 = .ok (.putfield 57, 3) := by decide +kernel
theorem dX4_step_126 : decode cX4_step 126 = .ok (.aload_n 0, 1) := by decide +kernel
theorem dX4_step_127 : decode cX4_step 127 = .ok (.dup, 1) := by decide +kernel
theorem dX4_step_128 : decode cX4_step 128 = .ok (.getfield 34, 3) := by decide +kernel
theorem dX4_step_131 : decode cX4_step 131 = .ok (.iconst 1, 1) := by decide +kernel
theorem dX4_step_132 : decode cX4_step 132 = .ok (.iadd, 1) := by decide +kernel
theorem dX4_step_133 : decode cX4_step 133 = .ok (.putfield 34, 3) := by decide +kernel
theorem dX4_step_136 : decode cX4_step 136 = .ok (.return_, 1) := by decide +kernel
theorem dX4_readWord_0 : decode cX4_readWord 0 = .ok (.aload_n 0, 1) := by decide +kernel
theorem dX4_readWord_1 : decode cX4_readWord 1 = .ok (.lconst 0, 1) := by decide +kernel
theorem dX4_readWord_2 : decode cX4_readWord 2 = .ok (.putfield 77, 3) := by decide +kernel
theorem dX4_readWord_5 : decode cX4_readWord 5 = .ok (.aload_n 0, 1) := by decide +kernel
theorem dX4_readWord_6 : decode cX4_readWord 6 = .ok (.getfield 34, 3) := by decide +kernel
theorem dX4_readWord_9 : decode cX4_readWord 9 = .ok (.aload_n 0, 1) := by decide +kernel
theorem dX4_readWord_10 : decode cX4_readWord 10 = .ok (.getfield 22, 3) := by decide +kernel
theorem dX4_readWord_13 : decode cX4_readWord 13 = .ok (.getfield 37, 3) := by decide +kernel
theorem dX4_readWord_16 : decode cX4_readWord 16 = .ok (.if_icmp .ge 65, 3) := by decide +kernel
theorem dX4_readWord_19 : decode cX4_readWord 19 = .ok (.aload_n 0, 1) := by decide +kernel
theorem dX4_readWord_20 : decode cX4_readWord 20 = .ok (.getfield 22, 3) := by decide +kernel
theorem dX4_readWord_23 : decode cX4_readWord 23 = .ok (.getfield 116, 3) := by decide +kernel
theorem dX4_readWord_26 : decode cX4_readWord 26 = .ok (.aload_n 0, 1) := by decide +kernel
theorem dX4_readWord_27 : decode cX4_readWord 27 = .ok (.getfield 34, 3) := by decide +kernel
theorem dX4_readWord_30 : decode cX4_readWord 30 = .ok (.iaload, 1) := by decide +kernel
theorem dX4_readWord_31 : decode cX4_readWord 31 = .ok (.invokestatic 124, 3) := by decide +kernel
theorem dX4_readWord_34 : decode cX4_readWord 34 = .ok (.ifCond .eq 47, 3) := by decide +kernel
theorem dX4_readWord_37 : decode cX4_readWord 37 = .ok (.aload_n 0, 1) := by decide +kernel
theorem dX4_readWord_38 : decode cX4_readWord 38 = .ok (.aload_n 0, 1) := by decide +kernel
theorem dX4_readWord_39 : decode cX4_readWord 39 = .ok (.getfield 77, 3) := by decide +kernel
theorem dX4_readWord_42 : decode cX4_readWord 42 = .ok (.ldc2_w 130, 3) := by decide +kernel
theorem dX4_readWord_45 : decode cX4_readWord 45 = .ok (.lmul, 1) := by decide +kernel
theorem dX4_readWord_46 : decode cX4_readWord 46 = .ok (.aload_n 0, 1) := by decide +kernel
theorem dX4_readWord_47 : decode cX4_readWord 47 = .ok (.getfield 22, 3) := by decide +kernel
theorem dX4_readWord_50 : decode cX4_readWord 50 = .ok (.getfield 116, 3) := by decide +kernel
theorem dX4_readWord_53 : decode cX4_readWord 53 = .ok (.aload_n 0, 1) := by decide +kernel
theorem dX4_readWord_54 : decode cX4_readWord 54 = .ok (.getfield 34, 3) := by decide +kernel
theorem dX4_readWord_57 : decode cX4_readWord 57 = .ok (.iaload, 1) := by decide +kernel
theorem dX4_readWord_58 : decode cX4_readWord 58 = .ok (.bipush 97, 2) := by decide +kernel
theorem dX4_readWord_60 : decode cX4_readWord 60 = .ok (.isub, 1) := by decide +kernel
theorem dX4_readWord_61 : decode cX4_readWord 61 = .ok (.iconst 1, 1) := by decide +kernel
theorem dX4_readWord_62 : decode cX4_readWord 62 = .ok (.iadd, 1) := by decide +kernel
theorem dX4_readWord_63 : decode cX4_readWord 63 = .ok (.i2l, 1) := by decide +kernel
theorem dX4_readWord_64 : decode cX4_readWord 64 = .ok (.ladd, 1) := by decide +kernel
theorem dX4_readWord_65 : decode cX4_readWord 65 = .ok (.putfield 77, 3) := by decide +kernel
theorem dX4_readWord_68 : decode cX4_readWord 68 = .ok (.aload_n 0, 1) := by decide +kernel
theorem dX4_readWord_69 : decode cX4_readWord 69 = .ok (.dup, 1) := by decide +kernel
theorem dX4_readWord_70 : decode cX4_readWord 70 = .ok (.getfield 34, 3) := by decide +kernel
theorem dX4_readWord_73 : decode cX4_readWord 73 = .ok (.iconst 1, 1) := by decide +kernel
theorem dX4_readWord_74 : decode cX4_readWord 74 = .ok (.iadd, 1) := by decide +kernel
theorem dX4_readWord_75 : decode cX4_readWord 75 = .ok (.putfield 34, 3) := by decide +kernel
theorem dX4_readWord_78 : decode cX4_readWord 78 = .ok (.goto (-73), 3) := by decide +kernel
theorem dX4_readWord_81 : decode cX4_readWord 81 = .ok (.aload_n 0, 1) := by decide +kernel
theorem dX4_readWord_82 : decode cX4_readWord 82 = .ok (.aload_n 0, 1) := by decide +kernel
theorem dX4_readWord_83 : decode cX4_readWord 83 = .ok (.getfield 34, 3) := by decide +kernel
theorem dX4_readWord_86 : decode cX4_readWord 86 = .ok (.aload_n 0, 1) := by decide +kernel
theorem dX4_readWord_87 : decode cX4_readWord 87 = .ok (.getfield 86, 3) := by decide +kernel
theorem dX4_readWord_90 : decode cX4_readWord 90 = .ok (.isub, 1) := by decide +kernel
theorem dX4_readWord_91 : decode cX4_readWord 91 = .ok (.bipush 7, 2) := by decide +kernel
theorem dX4_readWord_93 : decode cX4_readWord 93 = .ok (.if_icmp .gt 7, 3) := by decide +kernel
theorem dX4_readWord_96 : decode cX4_readWord 96 = .ok (.iconst 1, 1) := by decide +kernel
theorem dX4_readWord_97 : decode cX4_readWord 97 = .ok (.goto 4, 3) := by decide +kernel
theorem dX4_readWord_100 : decode cX4_readWord 100 = .ok (.iconst 3, 1) := by decide +kernel
theorem dX4_readWord_101 : decode cX4_readWord 101 = .ok (.putfield 57, 3) := by decide +kernel
theorem dX4_readWord_104 : decode cX4_readWord 104 = .ok (.return_, 1) := by decide +kernel
theorem dX4_isBlank_0 : decode cX4_isBlank 0 = .ok (.iload_n 0, 1) := by decide +kernel
theorem dX4_isBlank_1 : decode cX4_isBlank 1 = .ok (.bipush 32, 2) := by decide +kernel
theorem dX4_isBlank_3 : decode cX4_isBlank 3 = .ok (.if_icmp .eq 9, 3) := by decide +kernel
theorem dX4_isBlank_6 : decode cX4_isBlank 6 = .ok (.iload_n 0, 1) := by decide +kernel
theorem dX4_isBlank_7 : decode cX4_isBlank 7 = .ok (.bipush 10, 2) := by decide +kernel
theorem dX4_isBlank_9 : decode cX4_isBlank 9 = .ok (.if_icmp .ne 7, 3) := by decide +kernel
theorem dX4_isBlank_12 : decode cX4_isBlank 12 = .ok (.iconst 1, 1) := by decide +kernel
theorem dX4_isBlank_13 : decode cX4_isBlank 13 = .ok (.goto 4, 3) := by decide +kernel
theorem dX4_isBlank_16 : decode cX4_isBlank 16 = .ok (.iconst 0, 1) := by decide +kernel
theorem dX4_isBlank_17 : decode cX4_isBlank 17 = .ok (.ireturn, 1) := by decide +kernel
theorem dX4_isLetter_0 : decode cX4_isLetter 0 = .ok (.iload_n 0, 1) := by decide +kernel
theorem dX4_isLetter_1 : decode cX4_isLetter 1 = .ok (.bipush 97, 2) := by decide +kernel
theorem dX4_isLetter_3 : decode cX4_isLetter 3 = .ok (.if_icmp .lt 13, 3) := by decide +kernel
theorem dX4_isLetter_6 : decode cX4_isLetter 6 = .ok (.iload_n 0, 1) := by decide +kernel
theorem dX4_isLetter_7 : decode cX4_isLetter 7 = .ok (.bipush 122, 2) := by decide +kernel
theorem dX4_isLetter_9 : decode cX4_isLetter 9 = .ok (.if_icmp .gt 7, 3) := by decide +kernel
theorem dX4_isLetter_12 : decode cX4_isLetter 12 = .ok (.iconst 1, 1) := by decide +kernel
theorem dX4_isLetter_13 : decode cX4_isLetter 13 = .ok (.goto 4, 3) := by decide +kernel
theorem dX4_isLetter_16 : decode cX4_isLetter 16 = .ok (.iconst 0, 1) := by decide +kernel
theorem dX4_isLetter_17 : decode cX4_isLetter 17 = .ok (.ireturn, 1) := by decide +kernel
theorem dX5_init_0 : decode cX5_init 0 = .ok (.aload_n 0, 1) := by decide +kernel
theorem dX5_init_1 : decode cX5_init 1 = .ok (.invokespecial 3, 3) := by decide +kernel
theorem dX5_init_4 : decode cX5_init 4 = .ok (.aload_n 0, 1) := by decide +kernel
theorem dX5_init_5 : decode cX5_init 5 = .ok (.bipush 8, 2) := by decide +kernel
theorem dX5_init_7 : decode cX5_init 7 = .ok (.newarray .int, 2) := by decide +kernel
theorem dX5_init_9 : decode cX5_init 9 = .ok (.putfield 9, 3) := by decide +kernel
theorem dX5_init_12 : decode cX5_init 12 = .ok (.aload_n 0, 1) := by decide +kernel
theorem dX5_init_13 : decode cX5_init 13 = .ok (.bipush 64, 2) := by decide +kernel
theorem dX5_init_15 : decode cX5_init 15 = .ok (.newarray .int, 2) := by decide +kernel
theorem dX5_init_17 : decode cX5_init 17 = .ok (.putfield 15, 3) := by decide +kernel
theorem dX5_init_20 : decode cX5_init 20 = .ok (.return_, 1) := by decide +kernel
theorem dX5_seek_0 : decode cX5_seek 0 = .ok (.iload_n 3, 1) := by decide +kernel
theorem dX5_seek_1 : decode cX5_seek 1 = .ok (.iconst 1, 1) := by decide +kernel
theorem dX5_seek_2 : decode cX5_seek 2 = .ok (.if_icmp .ne 17, 3) := by decide +kernel
theorem dX5_seek_5 : decode cX5_seek 5 = .ok (.aload_n 0, 1) := by decide +kernel
theorem dX5_seek_6 : decode cX5_seek 6 = .ok (.aload_n 1, 1) := by decide +kernel
theorem dX5_seek_7 : decode cX5_seek 7 = .ok (.iload_n 2, 1) := by decide +kernel
theorem dX5_seek_8 : decode cX5_seek 8 = .ok (.iload_n 3, 1) := by decide +kernel
theorem dX5_seek_9 : decode cX5_seek 9 = .ok (.iload 5, 2) := by decide +kernel
theorem dX5_seek_11 : decode cX5_seek 11 = .ok (.iload 4, 2) := by decide +kernel
theorem dX5_seek_13 : decode cX5_seek 13 = .ok (.invokevirtual 18, 3) := by decide +kernel
theorem dX5_seek_16 : decode cX5_seek 16 = .ok (.goto 4, 3) := by decide +kernel
theorem dX5_seek_19 : decode cX5_seek 19 = .ok (.iconst 0, 1) := by decide +kernel
theorem dX5_seek_20 : decode cX5_seek 20 = .ok (.istore 6, 2) := by decide +kernel
theorem dX5_seek_22 : decode cX5_seek 22 = .ok (.aload_n 0, 1) := by decide +kernel
theorem dX5_seek_23 : decode cX5_seek 23 = .ok (.aload_n 1, 1) := by decide +kernel
theorem dX5_seek_24 : decode cX5_seek 24 = .ok (.iload_n 2, 1) := by decide +kernel
theorem dX5_seek_25 : decode cX5_seek 25 = .ok (.iload_n 3, 1) := by decide +kernel
theorem dX5_seek_26 : decode cX5_seek 26 = .ok (.iload 4, 2) := by decide +kernel
theorem dX5_seek_28 : decode cX5_seek 28 = .ok (.iload 5, 2) := by decide +kernel
theorem dX5_seek_30 : decode cX5_seek 30 = .ok (.invokevirtual 18, 3) := by decide +kernel
theorem dX5_seek_33 : decode cX5_seek 33 = .ok (.istore 7, 2) := by decide +kernel
theorem dX5_seek_35 : decode cX5_seek 35 = .ok (.iload 7, 2) := by decide +kernel
theorem dX5_seek_37 : decode cX5_seek 37 = .ok (.ifCond .eq 30, 3) := by decide +kernel
theorem dX5_seek_40 : decode cX5_seek 40 = .ok (.iload 6, 2) := by decide +kernel
theorem dX5_seek_42 : decode cX5_seek 42 = .ok (.ifCond .eq 10, 3) := by decide +kernel
theorem dX5_seek_45 : decode cX5_seek 45 = .ok (.iload 7, 2) := by decide +kernel
theorem dX5_seek_47 : decode cX5_seek 47 = .ok (.iload 6, 2) := by decide +kernel
theorem dX5_seek_49 : decode cX5_seek 49 = .ok (.if_icmp .gt 18, 3) := by decide +kernel
theorem dX5_seek_52 : decode cX5_seek 52 = .ok (.aload_n 0, 1) := by decide +kernel
theorem dX5_seek_53 : decode cX5_seek 53 = .ok (.aload_n 1, 1) := by decide +kernel
theorem dX5_seek_54 : decode cX5_seek 54 = .ok (.iload_n 2, 1) := by decide +kernel
theorem dX5_seek_55 : decode cX5_seek 55 = .ok (.iload_n 3, 1) := by decide +kernel
theorem dX5_seek_56 : decode cX5_seek 56 = .ok (.iload 4, 2) := by decide +kernel
theorem dX5_seek_58 : decode cX5_seek 58 = .ok (.iload 5, 2) := by decide +kernel
theorem dX5_seek_60 : decode cX5_seek 60 = .ok (.iload 7, 2) := by decide +kernel
theorem dX5_seek_62 : decode cX5_seek 62 = .ok (.invokevirtual 22, 3) := by decide +kernel
theorem dX5_seek_65 : decode cX5_seek 65 = .ok (.iconst 1, 1) := by decide +kernel
theorem dX5_seek_66 : decode cX5_seek 66 = .ok (.ireturn, 1) := by decide +kernel
theorem dX5_seek_67 : decode cX5_seek 67 = .ok (.iload 6, 2) := by decide +kernel
theorem dX5_seek_69 : decode cX5_seek 69 = .ok (.ifCond .ne 5, 3) := by decide +kernel
theorem dX5_seek_72 : decode cX5_seek 72 = .ok (.iconst 0, 1) := by decide +kernel
theorem dX5_seek_73 : decode cX5_seek 73 = .ok (.ireturn, 1) := by decide +kernel
theorem dX5_seek_74 : decode cX5_seek 74 = .ok (.aload_n 0, 1) := by decide +kernel
theorem dX5_seek_75 : decode cX5_seek 75 = .ok (.aload_n 1, 1) := by decide +kernel
theorem dX5_seek_76 : decode cX5_seek 76 = .ok (.iload_n 2, 1) := by decide +kernel
theorem dX5_seek_77 : decode cX5_seek 77 = .ok (.iload_n 3, 1) := by decide +kernel
theorem dX5_seek_78 : decode cX5_seek 78 = .ok (.iload 5, 2) := by decide +kernel
theorem dX5_seek_80 : decode cX5_seek 80 = .ok (.iload 4, 2) := by decide +kernel
theorem dX5_seek_82 : decode cX5_seek 82 = .ok (.invokevirtual 18, 3) := by decide +kernel
theorem dX5_seek_85 : decode cX5_seek 85 = .ok (.pop, 1) := by decide +kernel
theorem dX5_seek_86 : decode cX5_seek 86 = .ok (.aload_n 0, 1) := by decide +kernel
theorem dX5_seek_87 : decode cX5_seek 87 = .ok (.aload_n 1, 1) := by decide +kernel
theorem dX5_seek_88 : decode cX5_seek 88 = .ok (.iload_n 2, 1) := by decide +kernel
theorem dX5_seek_89 : decode cX5_seek 89 = .ok (.iload_n 3, 1) := by decide +kernel
theorem dX5_seek_90 : decode cX5_seek 90 = .ok (.iload 5, 2) := by decide +kernel
theorem dX5_seek_92 : decode cX5_seek 92 = .ok (.iload 4, 2) := by decide +kernel
theorem dX5_seek_94 : decode cX5_seek 94 = .ok (.iload 6, 2) := by decide +kernel
theorem dX5_seek_96 : decode cX5_seek 96 = .ok (.invokevirtual 22, 3) := by decide +kernel
theorem dX5_seek_99 : decode cX5_seek 99 = .ok (.iconst 1, 1) := by decide +kernel
theorem dX5_seek_100 : decode cX5_seek 100 = .ok (.ireturn, 1) := by decide +kernel
theorem dX5_bits_0 : decode cX5_bits 0 = .ok (.iconst 0, 1) := by decide +kernel
theorem dX5_bits_1 : decode cX5_bits 1 = .ok (.istore_n 1, 1) := by decide +kernel
theorem dX5_bits_2 : decode cX5_bits 2 = .ok (.iconst 0, 1) := by decide +kernel
theorem dX5_bits_3 : decode cX5_bits 3 = .ok (.istore_n 2, 1) := by decide +kernel
theorem dX5_bits_4 : decode cX5_bits 4 = .ok (.iload_n 2, 1) := by decide +kernel
theorem dX5_bits_5 : decode cX5_bits 5 = .ok (.iconst 1, 1) := by decide +kernel
theorem dX5_bits_6 : decode cX5_bits 6 = .ok (.iadd, 1) := by decide +kernel
theorem dX5_bits_7 : decode cX5_bits 7 = .ok (.aload_n 0, 1) := by decide +kernel
theorem dX5_bits_8 : decode cX5_bits 8 = .ok (.getfield 26, 3) := by decide +kernel
theorem dX5_bits_11 : decode cX5_bits 11 = .ok (.if_icmp .ge 20, 3) := by decide +kernel
theorem dX5_bits_14 : decode cX5_bits 14 = .ok (.iload_n 1, 1) := by decide +kernel
theorem dX5_bits_15 : decode cX5_bits 15 = .ok (.iconst 1, 1) := by decide +kernel
theorem dX5_bits_16 : decode cX5_bits 16 = .ok (.aload_n 0, 1) := by decide +kernel
theorem dX5_bits_17 : decode cX5_bits 17 = .ok (.getfield 9, 3) := by decide +kernel
theorem dX5_bits_20 : decode cX5_bits 20 = .ok (.iload_n 2, 1) := by decide +kernel
theorem dX5_bits_21 : decode cX5_bits 21 = .ok (.iaload, 1) := by decide +kernel
theorem dX5_bits_22 : decode cX5_bits 22 = .ok (.ishl, 1) := by decide +kernel
theorem dX5_bits_23 : decode cX5_bits 23 = .ok (.ior, 1) := by decide +kernel
theorem dX5_bits_24 : decode cX5_bits 24 = .ok (.istore_n 1, 1) := by decide +kernel
theorem dX5_bits_25 : decode cX5_bits 25 = .ok (.iinc 2 1, 3) := by decide +kernel
theorem dX5_bits_28 : decode cX5_bits 28 = .ok (.goto (-24), 3) := by decide +kernel
theorem dX5_bits_31 : decode cX5_bits 31 = .ok (.iload_n 1, 1) := by decide +kernel
theorem dX5_bits_32 : decode cX5_bits 32 = .ok (.ireturn, 1) := by decide +kernel
theorem dX5_fewest_0 : decode cX5_fewest 0 = .ok (.aload_n 0, 1) := by decide +kernel
theorem dX5_fewest_1 : decode cX5_fewest 1 = .ok (.getfield 15, 3) := by decide +kernel
theorem dX5_fewest_4 : decode cX5_fewest 4 = .ok (.ldc 30, 2) := by decide +kernel
theorem dX5_fewest_6 : decode cX5_fewest 6 = .ok (.invokestatic 31, 3) := by decide +kernel
theorem dX5_fewest_9 : decode cX5_fewest 9 = .ok (.aload_n 0, 1) := by decide +kernel
theorem dX5_fewest_10 : decode cX5_fewest 10 = .ok (.getfield 15, 3) := by decide +kernel
theorem dX5_fewest_13 : decode cX5_fewest 13 = .ok (.iload 4, 2) := by decide +kernel
theorem dX5_fewest_15 : decode cX5_fewest 15 = .ok (.iconst 0, 1) := by decide +kernel
theorem dX5_fewest_16 : decode cX5_fewest 16 = .ok (.iastore, 1) := by decide +kernel
theorem dX5_fewest_17 : decode cX5_fewest 17 = .ok (.iconst 1, 1) := by decide +kernel
theorem dX5_fewest_18 : decode cX5_fewest 18 = .ok (.istore 6, 2) := by decide +kernel
theorem dX5_fewest_20 : decode cX5_fewest 20 = .ok (.iload 6, 2) := by decide +kernel
theorem dX5_fewest_22 : decode cX5_fewest 22 = .ok (.aload_n 1, 1) := by decide +kernel
theorem dX5_fewest_23 : decode cX5_fewest 23 = .ok (.getfield 37, 3) := by decide +kernel
theorem dX5_fewest_26 : decode cX5_fewest 26 = .ok (.if_icmp .ge 136, 3) := by decide +kernel
theorem dX5_fewest_29 : decode cX5_fewest 29 = .ok (.iconst 0, 1) := by decide +kernel
theorem dX5_fewest_30 : decode cX5_fewest 30 = .ok (.istore 7, 2) := by decide +kernel
theorem dX5_fewest_32 : decode cX5_fewest 32 = .ok (.iload 7, 2) := by decide +kernel
theorem dX5_fewest_34 : decode cX5_fewest 34 = .ok (.aload_n 1, 1) := by decide +kernel
theorem dX5_fewest_35 : decode cX5_fewest 35 = .ok (.getfield 42, 3) := by decide +kernel
theorem dX5_fewest_38 : decode cX5_fewest 38 = .ok (.if_icmp .ge 83, 3) := by decide +kernel
theorem dX5_fewest_41 : decode cX5_fewest 41 = .ok (.iload_n 2, 1) := by decide +kernel
theorem dX5_fewest_42 : decode cX5_fewest 42 = .ok (.iload 7, 2) := by decide +kernel
theorem dX5_fewest_44 : decode cX5_fewest 44 = .ok (.ishr, 1) := by decide +kernel
theorem dX5_fewest_45 : decode cX5_fewest 45 = .ok (.iconst 1, 1) := by decide +kernel
theorem dX5_fewest_46 : decode cX5_fewest 46 = .ok (.iand, 1) := by decide +kernel
theorem dX5_fewest_47 : decode cX5_fewest 47 = .ok (.ifCond .ne 68, 3) := by decide +kernel
theorem dX5_fewest_50 : decode cX5_fewest 50 = .ok (.aload_n 0, 1) := by decide +kernel
theorem dX5_fewest_51 : decode cX5_fewest 51 = .ok (.iload 6, 2) := by decide +kernel
theorem dX5_fewest_53 : decode cX5_fewest 53 = .ok (.aload_n 1, 1) := by decide +kernel
theorem dX5_fewest_54 : decode cX5_fewest 54 = .ok (.getfield 45, 3) := by decide +kernel
theorem dX5_fewest_57 : decode cX5_fewest 57 = .ok (.iload 7, 2) := by decide +kernel
theorem dX5_fewest_59 : decode cX5_fewest 59 = .ok (.iaload, 1) := by decide +kernel
theorem dX5_fewest_60 : decode cX5_fewest 60 = .ok (.aload_n 1, 1) := by decide +kernel
theorem dX5_fewest_61 : decode cX5_fewest 61 = .ok (.getfield 48, 3) := by decide +kernel
theorem dX5_fewest_64 : decode cX5_fewest 64 = .ok (.iload 7, 2) := by decide +kernel
theorem dX5_fewest_66 : decode cX5_fewest 66 = .ok (.iaload, 1) := by decide +kernel
theorem dX5_fewest_67 : decode cX5_fewest 67 = .ok (.aload_n 1, 1) := by decide +kernel
theorem dX5_fewest_68 : decode cX5_fewest 68 = .ok (.getfield 51, 3) := by decide +kernel
theorem dX5_fewest_71 : decode cX5_fewest 71 = .ok (.iload 7, 2) := by decide +kernel
theorem dX5_fewest_73 : decode cX5_fewest 73 = .ok (.iaload, 1) := by decide +kernel
theorem dX5_fewest_74 : decode cX5_fewest 74 = .ok (.invokestatic 54, 3) := by decide +kernel
theorem dX5_fewest_77 : decode cX5_fewest 77 = .ok (.invokevirtual 58, 3) := by decide +kernel
theorem dX5_fewest_80 : decode cX5_fewest 80 = .ok (.aload_n 1, 1) := by decide +kernel
theorem dX5_fewest_81 : decode cX5_fewest 81 = .ok (.getfield 51, 3) := by decide +kernel
theorem dX5_fewest_84 : decode cX5_fewest 84 = .ok (.iload 7, 2) := by decide +kernel
theorem dX5_fewest_86 : decode cX5_fewest 86 = .ok (.iaload, 1) := by decide +kernel
theorem dX5_fewest_87 : decode cX5_fewest 87 = .ok (.iconst 1, 1) := by decide +kernel
theorem dX5_fewest_88 : decode cX5_fewest 88 = .ok (.if_icmp .ne 27, 3) := by decide +kernel
theorem dX5_fewest_91 : decode cX5_fewest 91 = .ok (.aload_n 0, 1) := by decide +kernel
theorem dX5_fewest_92 : decode cX5_fewest 92 = .ok (.iload 6, 2) := by decide +kernel
theorem dX5_fewest_94 : decode cX5_fewest 94 = .ok (.aload_n 1, 1) := by decide +kernel
theorem dX5_fewest_95 : decode cX5_fewest 95 = .ok (.getfield 48, 3) := by decide +kernel
theorem dX5_fewest_98 : decode cX5_fewest 98 = .ok (.iload 7, 2) := by decide +kernel
theorem dX5_fewest_100 : decode cX5_fewest 100 = .ok (.iaload, 1) := by decide +kernel
theorem dX5_fewest_101 : decode cX5_fewest 101 = .ok (.aload_n 1, 1) := by decide +kernel
theorem dX5_fewest_102 : decode cX5_fewest 102 = .ok (.getfield 45, 3) := by decide +kernel
theorem dX5_fewest_105 : decode cX5_fewest 105 = .ok (.iload 7, 2) := by decide +kernel
theorem dX5_fewest_107 : decode cX5_fewest 107 = .ok (.iaload, 1) := by decide +kernel
theorem dX5_fewest_108 : decode cX5_fewest 108 = .ok (.iconst 1, 1) := by decide +kernel
theorem dX5_fewest_109 : decode cX5_fewest 109 = .ok (.invokestatic 54, 3) := by decide +kernel
theorem dX5_fewest_112 : decode cX5_fewest 112 = .ok (.invokevirtual 58, 3) := by decide +kernel
theorem dX5_fewest_115 : decode cX5_fewest 115 = .ok (.iinc 7 1, 3) := by decide +kernel
theorem dX5_fewest_118 : decode cX5_fewest 118 = .ok (.goto (-86), 3) := by decide +kernel
theorem dX5_fewest_121 : decode cX5_fewest 121 = .ok (.aload_n 0, 1) := by decide +kernel
theorem dX5_fewest_122 : decode cX5_fewest 122 = .ok (.getfield 15, 3) := by decide +kernel
theorem dX5_fewest_125 : decode cX5_fewest 125 = .ok (.iload 6, 2) := by decide +kernel
theorem dX5_fewest_127 : decode cX5_fewest 127 = .ok (.bipush 8, 2) := by decide +kernel
theorem dX5_fewest_129 : decode cX5_fewest 129 = .ok (.imul, 1) := by decide +kernel
theorem dX5_fewest_130 : decode cX5_fewest 130 = .ok (.iload 5, 2) := by decide +kernel
theorem dX5_fewest_132 : decode cX5_fewest 132 = .ok (.iadd, 1) := by decide +kernel
theorem dX5_fewest_133 : decode cX5_fewest 133 = .ok (.iaload, 1) := by decide +kernel
theorem dX5_fewest_134 : decode cX5_fewest 134 = .ok (.istore 7, 2) := by decide +kernel
theorem dX5_fewest_136 : decode cX5_fewest 136 = .ok (.iload 7, 2) := by decide +kernel
theorem dX5_fewest_138 : decode cX5_fewest 138 = .ok (.ldc 30, 2) := by decide +kernel
theorem dX5_fewest_140 : decode cX5_fewest 140 = .ok (.if_icmp .eq 16, 3) := by decide +kernel
theorem dX5_fewest_143 : decode cX5_fewest 143 = .ok (.iload 7, 2) := by decide +kernel
theorem dX5_fewest_145 : decode cX5_fewest 145 = .ok (.iload_n 3, 1) := by decide +kernel
theorem dX5_fewest_146 : decode cX5_fewest 146 = .ok (.invokestatic 54, 3) := by decide +kernel
theorem dX5_fewest_149 : decode cX5_fewest 149 = .ok (.iadd, 1) := by decide +kernel
theorem dX5_fewest_150 : decode cX5_fewest 150 = .ok (.ifCond .lt 6, 3) := by decide +kernel
theorem dX5_fewest_153 : decode cX5_fewest 153 = .ok (.iload 6, 2) := by decide +kernel
theorem dX5_fewest_155 : decode cX5_fewest 155 = .ok (.ireturn, 1) := by decide +kernel
theorem dX5_fewest_156 : decode cX5_fewest 156 = .ok (.iinc 6 1, 3) := by decide +kernel
theorem dX5_fewest_159 : decode cX5_fewest 159 = .ok (.goto (-139), 3) := by decide +kernel
theorem dX5_fewest_162 : decode cX5_fewest 162 = .ok (.iconst 0, 1) := by decide +kernel
theorem dX5_fewest_163 : decode cX5_fewest 163 = .ok (.ireturn, 1) := by decide +kernel
theorem dX5_raise_0 : decode cX5_raise 0 = .ok (.aload_n 0, 1) := by decide +kernel
theorem dX5_raise_1 : decode cX5_raise 1 = .ok (.getfield 15, 3) := by decide +kernel
theorem dX5_raise_4 : decode cX5_raise 4 = .ok (.iload_n 1, 1) := by decide +kernel
theorem dX5_raise_5 : decode cX5_raise 5 = .ok (.iconst 1, 1) := by decide +kernel
theorem dX5_raise_6 : decode cX5_raise 6 = .ok (.isub, 1) := by decide +kernel
theorem dX5_raise_7 : decode cX5_raise 7 = .ok (.bipush 8, 2) := by decide +kernel
theorem dX5_raise_9 : decode cX5_raise 9 = .ok (.imul, 1) := by decide +kernel
theorem dX5_raise_10 : decode cX5_raise 10 = .ok (.iload_n 3, 1) := by decide +kernel
theorem dX5_raise_11 : decode cX5_raise 11 = .ok (.iadd, 1) := by decide +kernel
theorem dX5_raise_12 : decode cX5_raise 12 = .ok (.iaload, 1) := by decide +kernel
theorem dX5_raise_13 : decode cX5_raise 13 = .ok (.istore 5, 2) := by decide +kernel
theorem dX5_raise_15 : decode cX5_raise 15 = .ok (.iload_n 1, 1) := by decide +kernel
theorem dX5_raise_16 : decode cX5_raise 16 = .ok (.bipush 8, 2) := by decide +kernel
theorem dX5_raise_18 : decode cX5_raise 18 = .ok (.imul, 1) := by decide +kernel
theorem dX5_raise_19 : decode cX5_raise 19 = .ok (.iload_n 2, 1) := by decide +kernel
theorem dX5_raise_20 : decode cX5_raise 20 = .ok (.iadd, 1) := by decide +kernel
theorem dX5_raise_21 : decode cX5_raise 21 = .ok (.istore 6, 2) := by decide +kernel
theorem dX5_raise_23 : decode cX5_raise 23 = .ok (.iload 5, 2) := by decide +kernel
theorem dX5_raise_25 : decode cX5_raise 25 = .ok (.ldc 30, 2) := by decide +kernel
theorem dX5_raise_27 : decode cX5_raise 27 = .ok (.if_icmp .eq 30, 3) := by decide +kernel
theorem dX5_raise_30 : decode cX5_raise 30 = .ok (.iload 5, 2) := by decide +kernel
theorem dX5_raise_32 : decode cX5_raise 32 = .ok (.iload 4, 2) := by decide +kernel
theorem dX5_raise_34 : decode cX5_raise 34 = .ok (.iadd, 1) := by decide +kernel
theorem dX5_raise_35 : decode cX5_raise 35 = .ok (.aload_n 0, 1) := by decide +kernel
theorem dX5_raise_36 : decode cX5_raise 36 = .ok (.getfield 15, 3) := by decide +kernel
theorem dX5_raise_39 : decode cX5_raise 39 = .ok (.iload 6, 2) := by decide +kernel
theorem dX5_raise_41 : decode cX5_raise 41 = .ok (.iaload, 1) := by decide +kernel
theorem dX5_raise_42 : decode cX5_raise 42 = .ok (.if_icmp .le 15, 3) := by decide +kernel
theorem dX5_raise_45 : decode cX5_raise 45 = .ok (.aload_n 0, 1) := by decide +kernel
theorem dX5_raise_46 : decode cX5_raise 46 = .ok (.getfield 15, 3) := by decide +kernel
theorem dX5_raise_49 : decode cX5_raise 49 = .ok (.iload 6, 2) := by decide +kernel
theorem dX5_raise_51 : decode cX5_raise 51 = .ok (.iload 5, 2) := by decide +kernel
theorem dX5_raise_53 : decode cX5_raise 53 = .ok (.iload 4, 2) := by decide +kernel
theorem dX5_raise_55 : decode cX5_raise 55 = .ok (.iadd, 1) := by decide +kernel
theorem dX5_raise_56 : decode cX5_raise 56 = .ok (.iastore, 1) := by decide +kernel
theorem dX5_raise_57 : decode cX5_raise 57 = .ok (.return_, 1) := by decide +kernel
theorem dX5_trace_0 : decode cX5_trace 0 = .ok (.aload_n 0, 1) := by decide +kernel
theorem dX5_trace_1 : decode cX5_trace 1 = .ok (.iload 6, 2) := by decide +kernel
theorem dX5_trace_3 : decode cX5_trace 3 = .ok (.iconst 1, 1) := by decide +kernel
theorem dX5_trace_4 : decode cX5_trace 4 = .ok (.iadd, 1) := by decide +kernel
theorem dX5_trace_5 : decode cX5_trace 5 = .ok (.putfield 26, 3) := by decide +kernel
theorem dX5_trace_8 : decode cX5_trace 8 = .ok (.aload_n 0, 1) := by decide +kernel
theorem dX5_trace_9 : decode cX5_trace 9 = .ok (.iload_n 3, 1) := by decide +kernel
theorem dX5_trace_10 : decode cX5_trace 10 = .ok (.ifCond .ne 7, 3) := by decide +kernel
theorem dX5_trace_13 : decode cX5_trace 13 = .ok (.iconst 1, 1) := by decide +kernel
theorem dX5_trace_14 : decode cX5_trace 14 = .ok (.goto 4, 3) := by decide +kernel
theorem dX5_trace_17 : decode cX5_trace 17 = .ok (.iconst 0, 1) := by decide +kernel
theorem dX5_trace_18 : decode cX5_trace 18 = .ok (.putfield 62, 3) := by decide +kernel
theorem dX5_trace_21 : decode cX5_trace 21 = .ok (.aload_n 0, 1) := by decide +kernel
theorem dX5_trace_22 : decode cX5_trace 22 = .ok (.iload 4, 2) := by decide +kernel
theorem dX5_trace_24 : decode cX5_trace 24 = .ok (.putfield 65, 3) := by decide +kernel
theorem dX5_trace_27 : decode cX5_trace 27 = .ok (.aload_n 0, 1) := by decide +kernel
theorem dX5_trace_28 : decode cX5_trace 28 = .ok (.iload 5, 2) := by decide +kernel
theorem dX5_trace_30 : decode cX5_trace 30 = .ok (.putfield 68, 3) := by decide +kernel
theorem dX5_trace_33 : decode cX5_trace 33 = .ok (.iload 5, 2) := by decide +kernel
theorem dX5_trace_35 : decode cX5_trace 35 = .ok (.istore 7, 2) := by decide +kernel
theorem dX5_trace_37 : decode cX5_trace 37 = .ok (.iload_n 3, 1) := by decide +kernel
theorem dX5_trace_38 : decode cX5_trace 38 = .ok (.invokestatic 54, 3) := by decide +kernel
theorem dX5_trace_41 : decode cX5_trace 41 = .ok (.istore 8, 2) := by decide +kernel
theorem dX5_trace_43 : decode cX5_trace 43 = .ok (.iconst 0, 1) := by decide +kernel
theorem dX5_trace_44 : decode cX5_trace 44 = .ok (.istore 9, 2) := by decide +kernel
theorem dX5_trace_46 : decode cX5_trace 46 = .ok (.iload 9, 2) := by decide +kernel
theorem dX5_trace_48 : decode cX5_trace 48 = .ok (.iload 6, 2) := by decide +kernel
theorem dX5_trace_50 : decode cX5_trace 50 = .ok (.if_icmp .ge 93, 3) := by decide +kernel
theorem dX5_trace_53 : decode cX5_trace 53 = .ok (.aload_n 0, 1) := by decide +kernel
theorem dX5_trace_54 : decode cX5_trace 54 = .ok (.aload_n 1, 1) := by decide +kernel
theorem dX5_trace_55 : decode cX5_trace 55 = .ok (.iload_n 2, 1) := by decide +kernel
theorem dX5_trace_56 : decode cX5_trace 56 = .ok (.iload 7, 2) := by decide +kernel
theorem dX5_trace_58 : decode cX5_trace 58 = .ok (.iload 8, 2) := by decide +kernel
theorem dX5_trace_60 : decode cX5_trace 60 = .ok (.iload 6, 2) := by decide +kernel
theorem dX5_trace_62 : decode cX5_trace 62 = .ok (.iconst 1, 1) := by decide +kernel
theorem dX5_trace_63 : decode cX5_trace 63 = .ok (.isub, 1) := by decide +kernel
theorem dX5_trace_64 : decode cX5_trace 64 = .ok (.iload 9, 2) := by decide +kernel
theorem dX5_trace_66 : decode cX5_trace 66 = .ok (.isub, 1) := by decide +kernel
theorem dX5_trace_67 : decode cX5_trace 67 = .ok (.invokevirtual 71, 3) := by decide +kernel
theorem dX5_trace_70 : decode cX5_trace 70 = .ok (.istore 10, 2) := by decide +kernel
theorem dX5_trace_72 : decode cX5_trace 72 = .ok (.iload 10, 2) := by decide +kernel
theorem dX5_trace_74 : decode cX5_trace 74 = .ok (.iconst (-1), 1) := by decide +kernel
theorem dX5_trace_75 : decode cX5_trace 75 = .ok (.if_icmp .ne 4, 3) := by decide +kernel
theorem dX5_trace_78 : decode cX5_trace 78 = .ok (.return_, 1) := by decide +kernel
theorem dX5_trace_79 : decode cX5_trace 79 = .ok (.aload_n 0, 1) := by decide +kernel
theorem dX5_trace_80 : decode cX5_trace 80 = .ok (.getfield 9, 3) := by decide +kernel
theorem dX5_trace_83 : decode cX5_trace 83 = .ok (.iload 9, 2) := by decide +kernel
theorem dX5_trace_85 : decode cX5_trace 85 = .ok (.iload 10, 2) := by decide +kernel
theorem dX5_trace_87 : decode cX5_trace 87 = .ok (.iastore, 1) := by decide +kernel
theorem dX5_trace_88 : decode cX5_trace 88 = .ok (.iload 8, 2) := by decide +kernel
theorem dX5_trace_90 : decode cX5_trace 90 = .ok (.aload_n 1, 1) := by decide +kernel
theorem dX5_trace_91 : decode cX5_trace 91 = .ok (.getfield 51, 3) := by decide +kernel
theorem dX5_trace_94 : decode cX5_trace 94 = .ok (.iload 10, 2) := by decide +kernel
theorem dX5_trace_96 : decode cX5_trace 96 = .ok (.iaload, 1) := by decide +kernel
theorem dX5_trace_97 : decode cX5_trace 97 = .ok (.invokestatic 54, 3) := by decide +kernel
theorem dX5_trace_100 : decode cX5_trace 100 = .ok (.iadd, 1) := by decide +kernel
theorem dX5_trace_101 : decode cX5_trace 101 = .ok (.istore 8, 2) := by decide +kernel
theorem dX5_trace_103 : decode cX5_trace 103 = .ok (.aload_n 0, 1) := by decide +kernel
theorem dX5_trace_104 : decode cX5_trace 104 = .ok (.dup, 1) := by decide +kernel
theorem dX5_trace_105 : decode cX5_trace 105 = .ok (.getfield 62, 3) := by decide +kernel
theorem dX5_trace_108 : decode cX5_trace 108 = .ok (.aload_n 1, 1) := by decide +kernel
theorem dX5_trace_109 : decode cX5_trace 109 = .ok (.getfield 51, 3) := by decide +kernel
theorem dX5_trace_112 : decode cX5_trace 112 = .ok (.iload 10, 2) := by decide +kernel
theorem dX5_trace_114 : decode cX5_trace 114 = .ok (.iaload, 1) := by decide +kernel
theorem dX5_trace_115 : decode cX5_trace 115 = .ok (.ifCond .ne 7, 3) := by decide +kernel
theorem dX5_trace_118 : decode cX5_trace 118 = .ok (.iconst 1, 1) := by decide +kernel
theorem dX5_trace_119 : decode cX5_trace 119 = .ok (.goto 4, 3) := by decide +kernel
theorem dX5_trace_122 : decode cX5_trace 122 = .ok (.iconst 0, 1) := by decide +kernel
theorem dX5_trace_123 : decode cX5_trace 123 = .ok (.iadd, 1) := by decide +kernel
theorem dX5_trace_124 : decode cX5_trace 124 = .ok (.putfield 62, 3) := by decide +kernel
theorem dX5_trace_127 : decode cX5_trace 127 = .ok (.aload_n 1, 1) := by decide +kernel
theorem dX5_trace_128 : decode cX5_trace 128 = .ok (.iload 10, 2) := by decide +kernel
theorem dX5_trace_130 : decode cX5_trace 130 = .ok (.iload 7, 2) := by decide +kernel
theorem dX5_trace_132 : decode cX5_trace 132 = .ok (.invokevirtual 74, 3) := by decide +kernel
theorem dX5_trace_135 : decode cX5_trace 135 = .ok (.istore 7, 2) := by decide +kernel
theorem dX5_trace_137 : decode cX5_trace 137 = .ok (.iinc 9 1, 3) := by decide +kernel
theorem dX5_trace_140 : decode cX5_trace 140 = .ok (.goto (-94), 3) := by decide +kernel
theorem dX5_trace_143 : decode cX5_trace 143 = .ok (.return_, 1) := by decide +kernel
theorem dX5_firstStep_0 : decode cX5_firstStep 0 = .ok (.iconst 0, 1) := by decide +kernel
theorem dX5_firstStep_1 : decode cX5_firstStep 1 = .ok (.istore 6, 2) := by decide +kernel
theorem dX5_firstStep_3 : decode cX5_firstStep 3 = .ok (.iload 6, 2) := by decide +kernel
theorem dX5_firstStep_5 : decode cX5_firstStep 5 = .ok (.aload_n 1, 1) := by decide +kernel
theorem dX5_firstStep_6 : decode cX5_firstStep 6 = .ok (.getfield 42, 3) := by decide +kernel
theorem dX5_firstStep_9 : decode cX5_firstStep 9 = .ok (.if_icmp .ge 81, 3) := by decide +kernel
theorem dX5_firstStep_12 : decode cX5_firstStep 12 = .ok (.iload_n 2, 1) := by decide +kernel
theorem dX5_firstStep_13 : decode cX5_firstStep 13 = .ok (.iload 6, 2) := by decide +kernel
theorem dX5_firstStep_15 : decode cX5_firstStep 15 = .ok (.ishr, 1) := by decide +kernel
theorem dX5_firstStep_16 : decode cX5_firstStep 16 = .ok (.iconst 1, 1) := by decide +kernel
theorem dX5_firstStep_17 : decode cX5_firstStep 17 = .ok (.iand, 1) := by decide +kernel
theorem dX5_firstStep_18 : decode cX5_firstStep 18 = .ok (.ifCond .ne 13, 3) := by decide +kernel
theorem dX5_firstStep_21 : decode cX5_firstStep 21 = .ok (.aload_n 1, 1) := by decide +kernel
theorem dX5_firstStep_22 : decode cX5_firstStep 22 = .ok (.iload 6, 2) := by decide +kernel
theorem dX5_firstStep_24 : decode cX5_firstStep 24 = .ok (.iload_n 3, 1) := by decide +kernel
theorem dX5_firstStep_25 : decode cX5_firstStep 25 = .ok (.invokevirtual 74, 3) := by decide +kernel
theorem dX5_firstStep_28 : decode cX5_firstStep 28 = .ok (.goto 4, 3) := by decide +kernel
theorem dX5_firstStep_31 : decode cX5_firstStep 31 = .ok (.iconst (-1), 1) := by decide +kernel
theorem dX5_firstStep_32 : decode cX5_firstStep 32 = .ok (.istore 7, 2) := by decide +kernel
theorem dX5_firstStep_34 : decode cX5_firstStep 34 = .ok (.iload 7, 2) := by decide +kernel
theorem dX5_firstStep_36 : decode cX5_firstStep 36 = .ok (.iconst (-1), 1) := by decide +kernel
theorem dX5_firstStep_37 : decode cX5_firstStep 37 = .ok (.if_icmp .eq 47, 3) := by decide +kernel
theorem dX5_firstStep_40 : decode cX5_firstStep 40 = .ok (.aload_n 0, 1) := by decide +kernel
theorem dX5_firstStep_41 : decode cX5_firstStep 41 = .ok (.getfield 15, 3) := by decide +kernel
theorem dX5_firstStep_44 : decode cX5_firstStep 44 = .ok (.iload 5, 2) := by decide +kernel
theorem dX5_firstStep_46 : decode cX5_firstStep 46 = .ok (.bipush 8, 2) := by decide +kernel
theorem dX5_firstStep_48 : decode cX5_firstStep 48 = .ok (.imul, 1) := by decide +kernel
theorem dX5_firstStep_49 : decode cX5_firstStep 49 = .ok (.iload 7, 2) := by decide +kernel
theorem dX5_firstStep_51 : decode cX5_firstStep 51 = .ok (.iadd, 1) := by decide +kernel
theorem dX5_firstStep_52 : decode cX5_firstStep 52 = .ok (.iaload, 1) := by decide +kernel
theorem dX5_firstStep_53 : decode cX5_firstStep 53 = .ok (.istore 8, 2) := by decide +kernel
theorem dX5_firstStep_55 : decode cX5_firstStep 55 = .ok (.iload 8, 2) := by decide +kernel
theorem dX5_firstStep_57 : decode cX5_firstStep 57 = .ok (.ldc 30, 2) := by decide +kernel
theorem dX5_firstStep_59 : decode cX5_firstStep 59 = .ok (.if_icmp .eq 25, 3) := by decide +kernel
theorem dX5_firstStep_62 : decode cX5_firstStep 62 = .ok (.iload 4, 2) := by decide +kernel
theorem dX5_firstStep_64 : decode cX5_firstStep 64 = .ok (.aload_n 1, 1) := by decide +kernel
theorem dX5_firstStep_65 : decode cX5_firstStep 65 = .ok (.getfield 51, 3) := by decide +kernel
theorem dX5_firstStep_68 : decode cX5_firstStep 68 = .ok (.iload 6, 2) := by decide +kernel
theorem dX5_firstStep_70 : decode cX5_firstStep 70 = .ok (.iaload, 1) := by decide +kernel
theorem dX5_firstStep_71 : decode cX5_firstStep 71 = .ok (.invokestatic 54, 3) := by decide +kernel
theorem dX5_firstStep_74 : decode cX5_firstStep 74 = .ok (.iadd, 1) := by decide +kernel
theorem dX5_firstStep_75 : decode cX5_firstStep 75 = .ok (.iload 8, 2) := by decide +kernel
theorem dX5_firstStep_77 : decode cX5_firstStep 77 = .ok (.iadd, 1) := by decide +kernel
theorem dX5_firstStep_78 : decode cX5_firstStep 78 = .ok (.ifCond .lt 6, 3) := by decide +kernel
theorem dX5_firstStep_81 : decode cX5_firstStep 81 = .ok (.iload 6, 2) := by decide +kernel
theorem dX5_firstStep_83 : decode cX5_firstStep 83 = .ok (.ireturn, 1) := by decide +kernel
theorem dX5_firstStep_84 : decode cX5_firstStep 84 = .ok (.iinc 6 1, 3) := by decide +kernel
theorem dX5_firstStep_87 : decode cX5_firstStep 87 = .ok (.goto (-84), 3) := by decide +kernel
theorem dX5_firstStep_90 : decode cX5_firstStep 90 = .ok (.iconst (-1), 1) := by decide +kernel
theorem dX5_firstStep_91 : decode cX5_firstStep 91 = .ok (.ireturn, 1) := by decide +kernel
theorem dX5_weight_0 : decode cX5_weight 0 = .ok (.iload_n 0, 1) := by decide +kernel
theorem dX5_weight_1 : decode cX5_weight 1 = .ok (.ifCond .ne 7, 3) := by decide +kernel
theorem dX5_weight_4 : decode cX5_weight 4 = .ok (.iconst 1, 1) := by decide +kernel
theorem dX5_weight_5 : decode cX5_weight 5 = .ok (.goto 4, 3) := by decide +kernel
theorem dX5_weight_8 : decode cX5_weight 8 = .ok (.iconst (-1), 1) := by decide +kernel
theorem dX5_weight_9 : decode cX5_weight 9 = .ok (.ireturn, 1) := by decide +kernel
theorem dX6_init_0 : decode cX6_init 0 = .ok (.aload_n 0, 1) := by decide +kernel
theorem dX6_init_1 : decode cX6_init 1 = .ok (.invokespecial 3, 3) := by decide +kernel
theorem dX6_init_4 : decode cX6_init 4 = .ok (.aload_n 0, 1) := by decide +kernel
theorem dX6_init_5 : decode cX6_init 5 = .ok (.sipush 169, 3) := by decide +kernel
theorem dX6_init_8 : decode cX6_init 8 = .ok (.newarray .int, 2) := by decide +kernel
theorem dX6_init_10 : decode cX6_init 10 = .ok (.putfield 9, 3) := by decide +kernel
theorem dX6_init_13 : decode cX6_init 13 = .ok (.return_, 1) := by decide +kernel
theorem dX6_howMany_0 : decode cX6_howMany 0 = .ok (.aload_n 0, 1) := by decide +kernel
theorem dX6_howMany_1 : decode cX6_howMany 1 = .ok (.iload_n 1, 1) := by decide +kernel
theorem dX6_howMany_2 : decode cX6_howMany 2 = .ok (.invokevirtual 13, 3) := by decide +kernel
theorem dX6_howMany_5 : decode cX6_howMany 5 = .ok (.aload_n 0, 1) := by decide +kernel
theorem dX6_howMany_6 : decode cX6_howMany 6 = .ok (.getfield 9, 3) := by decide +kernel
theorem dX6_howMany_9 : decode cX6_howMany 9 = .ok (.iconst 0, 1) := by decide +kernel
theorem dX6_howMany_10 : decode cX6_howMany 10 = .ok (.iaload, 1) := by decide +kernel
theorem dX6_howMany_11 : decode cX6_howMany 11 = .ok (.ireturn, 1) := by decide +kernel
theorem dX6_rankOf_0 : decode cX6_rankOf 0 = .ok (.aload_n 0, 1) := by decide +kernel
theorem dX6_rankOf_1 : decode cX6_rankOf 1 = .ok (.iload_n 2, 1) := by decide +kernel
theorem dX6_rankOf_2 : decode cX6_rankOf 2 = .ok (.invokevirtual 13, 3) := by decide +kernel
theorem dX6_rankOf_5 : decode cX6_rankOf 5 = .ok (.iconst 0, 1) := by decide +kernel
theorem dX6_rankOf_6 : decode cX6_rankOf 6 = .ok (.istore_n 3, 1) := by decide +kernel
theorem dX6_rankOf_7 : decode cX6_rankOf 7 = .ok (.iconst 0, 1) := by decide +kernel
theorem dX6_rankOf_8 : decode cX6_rankOf 8 = .ok (.istore 4, 2) := by decide +kernel
theorem dX6_rankOf_10 : decode cX6_rankOf 10 = .ok (.iconst 0, 1) := by decide +kernel
theorem dX6_rankOf_11 : decode cX6_rankOf 11 = .ok (.istore 5, 2) := by decide +kernel
theorem dX6_rankOf_13 : decode cX6_rankOf 13 = .ok (.iload 5, 2) := by decide +kernel
theorem dX6_rankOf_15 : decode cX6_rankOf 15 = .ok (.iload_n 2, 1) := by decide +kernel
theorem dX6_rankOf_16 : decode cX6_rankOf 16 = .ok (.if_icmp .ge 47, 3) := by decide +kernel
theorem dX6_rankOf_19 : decode cX6_rankOf 19 = .ok (.iload 4, 2) := by decide +kernel
theorem dX6_rankOf_21 : decode cX6_rankOf 21 = .ok (.istore 6, 2) := by decide +kernel
theorem dX6_rankOf_23 : decode cX6_rankOf 23 = .ok (.iload 6, 2) := by decide +kernel
theorem dX6_rankOf_25 : decode cX6_rankOf 25 = .ok (.aload_n 1, 1) := by decide +kernel
theorem dX6_rankOf_26 : decode cX6_rankOf 26 = .ok (.iload 5, 2) := by decide +kernel
theorem dX6_rankOf_28 : decode cX6_rankOf 28 = .ok (.iaload, 1) := by decide +kernel
theorem dX6_rankOf_29 : decode cX6_rankOf 29 = .ok (.if_icmp .ge 22, 3) := by decide +kernel
theorem dX6_rankOf_32 : decode cX6_rankOf 32 = .ok (.iload_n 3, 1) := by decide +kernel
theorem dX6_rankOf_33 : decode cX6_rankOf 33 = .ok (.aload_n 0, 1) := by decide +kernel
theorem dX6_rankOf_34 : decode cX6_rankOf 34 = .ok (.iload 5, 2) := by decide +kernel
theorem dX6_rankOf_36 : decode cX6_rankOf 36 = .ok (.iconst 1, 1) := by decide +kernel
theorem dX6_rankOf_37 : decode cX6_rankOf 37 = .ok (.iadd, 1) := by decide +kernel
theorem dX6_rankOf_38 : decode cX6_rankOf 38 = .ok (.iload 6, 2) := by decide +kernel
theorem dX6_rankOf_40 : decode cX6_rankOf 40 = .ok (.invokevirtual 17, 3) := by decide +kernel
theorem dX6_rankOf_43 : decode cX6_rankOf 43 = .ok (.iadd, 1) := by decide +kernel
theorem dX6_rankOf_44 : decode cX6_rankOf 44 = .ok (.istore_n 3, 1) := by decide +kernel
theorem dX6_rankOf_45 : decode cX6_rankOf 45 = .ok (.iinc 6 1, 3) := by decide +kernel
theorem dX6_rankOf_48 : decode cX6_rankOf 48 = .ok (.goto (-25), 3) := by decide +kernel
theorem dX6_rankOf_51 : decode cX6_rankOf 51 = .ok (.aload_n 1, 1) := by decide +kernel
theorem dX6_rankOf_52 : decode cX6_rankOf 52 = .ok (.iload 5, 2) := by decide +kernel
theorem dX6_rankOf_54 : decode cX6_rankOf 54 = .ok (.iaload, 1) := by decide +kernel
theorem dX6_rankOf_55 : decode cX6_rankOf 55 = .ok (.istore 4, 2) := by decide +kernel
theorem dX6_rankOf_57 : decode cX6_rankOf 57 = .ok (.iinc 5 1, 3) := by decide +kernel
theorem dX6_rankOf_60 : decode cX6_rankOf 60 = .ok (.goto (-47), 3) := by decide +kernel
theorem dX6_rankOf_63 : decode cX6_rankOf 63 = .ok (.iload_n 3, 1) := by decide +kernel
theorem dX6_rankOf_64 : decode cX6_rankOf 64 = .ok (.ireturn, 1) := by decide +kernel
theorem dX6_spell_0 : decode cX6_spell 0 = .ok (.aload_n 0, 1) := by decide +kernel
theorem dX6_spell_1 : decode cX6_spell 1 = .ok (.iload_n 1, 1) := by decide +kernel
theorem dX6_spell_2 : decode cX6_spell 2 = .ok (.invokevirtual 13, 3) := by decide +kernel
theorem dX6_spell_5 : decode cX6_spell 5 = .ok (.iload_n 2, 1) := by decide +kernel
theorem dX6_spell_6 : decode cX6_spell 6 = .ok (.istore 4, 2) := by decide +kernel
theorem dX6_spell_8 : decode cX6_spell 8 = .ok (.iconst 0, 1) := by decide +kernel
theorem dX6_spell_9 : decode cX6_spell 9 = .ok (.istore 5, 2) := by decide +kernel
theorem dX6_spell_11 : decode cX6_spell 11 = .ok (.iconst 0, 1) := by decide +kernel
theorem dX6_spell_12 : decode cX6_spell 12 = .ok (.istore 6, 2) := by decide +kernel
theorem dX6_spell_14 : decode cX6_spell 14 = .ok (.iload 6, 2) := by decide +kernel
theorem dX6_spell_16 : decode cX6_spell 16 = .ok (.iload_n 1, 1) := by decide +kernel
theorem dX6_spell_17 : decode cX6_spell 17 = .ok (.if_icmp .ge 58, 3) := by decide +kernel
theorem dX6_spell_20 : decode cX6_spell 20 = .ok (.iload 5, 2) := by decide +kernel
theorem dX6_spell_22 : decode cX6_spell 22 = .ok (.iload 6, 2) := by decide +kernel
theorem dX6_spell_24 : decode cX6_spell 24 = .ok (.if_icmp .ge 39, 3) := by decide +kernel
theorem dX6_spell_27 : decode cX6_spell 27 = .ok (.iload 4, 2) := by decide +kernel
theorem dX6_spell_29 : decode cX6_spell 29 = .ok (.aload_n 0, 1) := by decide +kernel
theorem dX6_spell_30 : decode cX6_spell 30 = .ok (.iload 6, 2) := by decide +kernel
theorem dX6_spell_32 : decode cX6_spell 32 = .ok (.iconst 1, 1) := by decide +kernel
theorem dX6_spell_33 : decode cX6_spell 33 = .ok (.iadd, 1) := by decide +kernel
theorem dX6_spell_34 : decode cX6_spell 34 = .ok (.iload 5, 2) := by decide +kernel
theorem dX6_spell_36 : decode cX6_spell 36 = .ok (.invokevirtual 17, 3) := by decide +kernel
theorem dX6_spell_39 : decode cX6_spell 39 = .ok (.if_icmp .lt 24, 3) := by decide +kernel
theorem dX6_spell_42 : decode cX6_spell 42 = .ok (.iload 4, 2) := by decide +kernel
theorem dX6_spell_44 : decode cX6_spell 44 = .ok (.aload_n 0, 1) := by decide +kernel
theorem dX6_spell_45 : decode cX6_spell 45 = .ok (.iload 6, 2) := by decide +kernel
theorem dX6_spell_47 : decode cX6_spell 47 = .ok (.iconst 1, 1) := by decide +kernel
theorem dX6_spell_48 : decode cX6_spell 48 = .ok (.iadd, 1) := by decide +kernel
theorem dX6_spell_49 : decode cX6_spell 49 = .ok (.iload 5, 2) := by decide +kernel
theorem dX6_spell_51 : decode cX6_spell 51 = .ok (.invokevirtual 17, 3) := by decide +kernel
theorem dX6_spell_54 : decode cX6_spell 54 = .ok (.isub, 1) := by decide +kernel
theorem dX6_spell_55 : decode cX6_spell 55 = .ok (.istore 4, 2) := by decide +kernel
theorem dX6_spell_57 : decode cX6_spell 57 = .ok (.iinc 5 1, 3) := by decide +kernel
theorem dX6_spell_60 : decode cX6_spell 60 = .ok (.goto (-40), 3) := by decide +kernel
theorem dX6_spell_63 : decode cX6_spell 63 = .ok (.aload_n 3, 1) := by decide +kernel
theorem dX6_spell_64 : decode cX6_spell 64 = .ok (.iload 6, 2) := by decide +kernel
theorem dX6_spell_66 : decode cX6_spell 66 = .ok (.iload 5, 2) := by decide +kernel
theorem dX6_spell_68 : decode cX6_spell 68 = .ok (.iastore, 1) := by decide +kernel
theorem dX6_spell_69 : decode cX6_spell 69 = .ok (.iinc 6 1, 3) := by decide +kernel
theorem dX6_spell_72 : decode cX6_spell 72 = .ok (.goto (-58), 3) := by decide +kernel
theorem dX6_spell_75 : decode cX6_spell 75 = .ok (.return_, 1) := by decide +kernel
theorem dX6_tailAt_0 : decode cX6_tailAt 0 = .ok (.aload_n 0, 1) := by decide +kernel
theorem dX6_tailAt_1 : decode cX6_tailAt 1 = .ok (.getfield 9, 3) := by decide +kernel
theorem dX6_tailAt_4 : decode cX6_tailAt 4 = .ok (.iload_n 1, 1) := by decide +kernel
theorem dX6_tailAt_5 : decode cX6_tailAt 5 = .ok (.bipush 13, 2) := by decide +kernel
theorem dX6_tailAt_7 : decode cX6_tailAt 7 = .ok (.imul, 1) := by decide +kernel
theorem dX6_tailAt_8 : decode cX6_tailAt 8 = .ok (.iload_n 2, 1) := by decide +kernel
theorem dX6_tailAt_9 : decode cX6_tailAt 9 = .ok (.iadd, 1) := by decide +kernel
theorem dX6_tailAt_10 : decode cX6_tailAt 10 = .ok (.iaload, 1) := by decide +kernel
theorem dX6_tailAt_11 : decode cX6_tailAt 11 = .ok (.ireturn, 1) := by decide +kernel
theorem dX6_fillTails_0 : decode cX6_fillTails 0 = .ok (.iconst 0, 1) := by decide +kernel
theorem dX6_fillTails_1 : decode cX6_fillTails 1 = .ok (.istore_n 2, 1) := by decide +kernel
theorem dX6_fillTails_2 : decode cX6_fillTails 2 = .ok (.iload_n 2, 1) := by decide +kernel
theorem dX6_fillTails_3 : decode cX6_fillTails 3 = .ok (.bipush 13, 2) := by decide +kernel
theorem dX6_fillTails_5 : decode cX6_fillTails 5 = .ok (.if_icmp .ge 21, 3) := by decide +kernel
theorem dX6_fillTails_8 : decode cX6_fillTails 8 = .ok (.aload_n 0, 1) := by decide +kernel
theorem dX6_fillTails_9 : decode cX6_fillTails 9 = .ok (.getfield 9, 3) := by decide +kernel
theorem dX6_fillTails_12 : decode cX6_fillTails 12 = .ok (.iload_n 1, 1) := by decide +kernel
theorem dX6_fillTails_13 : decode cX6_fillTails 13 = .ok (.bipush 13, 2) := by decide +kernel
theorem dX6_fillTails_15 : decode cX6_fillTails 15 = .ok (.imul, 1) := by decide +kernel
theorem dX6_fillTails_16 : decode cX6_fillTails 16 = .ok (.iload_n 2, 1) := by decide +kernel
theorem dX6_fillTails_17 : decode cX6_fillTails 17 = .ok (.iadd, 1) := by decide +kernel
theorem dX6_fillTails_18 : decode cX6_fillTails 18 = .ok (.iconst 1, 1) := by decide +kernel
theorem dX6_fillTails_19 : decode cX6_fillTails 19 = .ok (.iastore, 1) := by decide +kernel
theorem dX6_fillTails_20 : decode cX6_fillTails 20 = .ok (.iinc 2 1, 3) := by decide +kernel
theorem dX6_fillTails_23 : decode cX6_fillTails 23 = .ok (.goto (-21), 3) := by decide +kernel
theorem dX6_fillTails_26 : decode cX6_fillTails 26 = .ok (.iload_n 1, 1) := by decide +kernel
theorem dX6_fillTails_27 : decode cX6_fillTails 27 = .ok (.iconst 1, 1) := by decide +kernel
theorem dX6_fillTails_28 : decode cX6_fillTails 28 = .ok (.isub, 1) := by decide +kernel
theorem dX6_fillTails_29 : decode cX6_fillTails 29 = .ok (.istore_n 2, 1) := by decide +kernel
theorem dX6_fillTails_30 : decode cX6_fillTails 30 = .ok (.iload_n 2, 1) := by decide +kernel
theorem dX6_fillTails_31 : decode cX6_fillTails 31 = .ok (.ifCond .lt 50, 3) := by decide +kernel
theorem dX6_fillTails_34 : decode cX6_fillTails 34 = .ok (.iconst 0, 1) := by decide +kernel
theorem dX6_fillTails_35 : decode cX6_fillTails 35 = .ok (.istore_n 3, 1) := by decide +kernel
theorem dX6_fillTails_36 : decode cX6_fillTails 36 = .ok (.iload_n 2, 1) := by decide +kernel
theorem dX6_fillTails_37 : decode cX6_fillTails 37 = .ok (.istore 4, 2) := by decide +kernel
theorem dX6_fillTails_39 : decode cX6_fillTails 39 = .ok (.iload 4, 2) := by decide +kernel
theorem dX6_fillTails_41 : decode cX6_fillTails 41 = .ok (.ifCond .lt 34, 3) := by decide +kernel
theorem dX6_fillTails_44 : decode cX6_fillTails 44 = .ok (.iload_n 3, 1) := by decide +kernel
theorem dX6_fillTails_45 : decode cX6_fillTails 45 = .ok (.aload_n 0, 1) := by decide +kernel
theorem dX6_fillTails_46 : decode cX6_fillTails 46 = .ok (.iload_n 2, 1) := by decide +kernel
theorem dX6_fillTails_47 : decode cX6_fillTails 47 = .ok (.iconst 1, 1) := by decide +kernel
theorem dX6_fillTails_48 : decode cX6_fillTails 48 = .ok (.iadd, 1) := by decide +kernel
theorem dX6_fillTails_49 : decode cX6_fillTails 49 = .ok (.iload 4, 2) := by decide +kernel
theorem dX6_fillTails_51 : decode cX6_fillTails 51 = .ok (.invokevirtual 17, 3) := by decide +kernel
theorem dX6_fillTails_54 : decode cX6_fillTails 54 = .ok (.iadd, 1) := by decide +kernel
theorem dX6_fillTails_55 : decode cX6_fillTails 55 = .ok (.istore_n 3, 1) := by decide +kernel
theorem dX6_fillTails_56 : decode cX6_fillTails 56 = .ok (.aload_n 0, 1) := by decide +kernel
theorem dX6_fillTails_57 : decode cX6_fillTails 57 = .ok (.getfield 9, 3) := by decide +kernel
theorem dX6_fillTails_60 : decode cX6_fillTails 60 = .ok (.iload_n 2, 1) := by decide +kernel
theorem dX6_fillTails_61 : decode cX6_fillTails 61 = .ok (.bipush 13, 2) := by decide +kernel
theorem dX6_fillTails_63 : decode cX6_fillTails 63 = .ok (.imul, 1) := by decide +kernel
theorem dX6_fillTails_64 : decode cX6_fillTails 64 = .ok (.iload 4, 2) := by decide +kernel
theorem dX6_fillTails_66 : decode cX6_fillTails 66 = .ok (.iadd, 1) := by decide +kernel
theorem dX6_fillTails_67 : decode cX6_fillTails 67 = .ok (.iload_n 3, 1) := by decide +kernel
theorem dX6_fillTails_68 : decode cX6_fillTails 68 = .ok (.iastore, 1) := by decide +kernel
theorem dX6_fillTails_69 : decode cX6_fillTails 69 = .ok (.iinc 4 (-1), 3) := by decide +kernel
theorem dX6_fillTails_72 : decode cX6_fillTails 72 = .ok (.goto (-33), 3) := by decide +kernel
theorem dX6_fillTails_75 : decode cX6_fillTails 75 = .ok (.iinc 2 (-1), 3) := by decide +kernel
theorem dX6_fillTails_78 : decode cX6_fillTails 78 = .ok (.goto (-48), 3) := by decide +kernel
theorem dX6_fillTails_81 : decode cX6_fillTails 81 = .ok (.return_, 1) := by decide +kernel
theorem dX7_init_0 : decode cX7_init 0 = .ok (.aload_n 0, 1) := by decide +kernel
theorem dX7_init_1 : decode cX7_init 1 = .ok (.invokespecial 1, 3) := by decide +kernel
theorem dX7_init_4 : decode cX7_init 4 = .ok (.aload_n 0, 1) := by decide +kernel
theorem dX7_init_5 : decode cX7_init 5 = .ok (.sipush 740, 3) := by decide +kernel
theorem dX7_init_8 : decode cX7_init 8 = .ok (.newarray .int, 2) := by decide +kernel
theorem dX7_init_10 : decode cX7_init 10 = .ok (.putfield 9, 3) := by decide +kernel
theorem dX7_init_13 : decode cX7_init 13 = .ok (.return_, 1) := by decide +kernel
theorem dX7_put_0 : decode cX7_put 0 = .ok (.bipush 24, 2) := by decide +kernel
theorem dX7_put_2 : decode cX7_put 2 = .ok (.istore_n 2, 1) := by decide +kernel
theorem dX7_put_3 : decode cX7_put 3 = .ok (.iload_n 2, 1) := by decide +kernel
theorem dX7_put_4 : decode cX7_put 4 = .ok (.ifCond .lt 45, 3) := by decide +kernel
theorem dX7_put_7 : decode cX7_put 7 = .ok (.aload_n 0, 1) := by decide +kernel
theorem dX7_put_8 : decode cX7_put 8 = .ok (.getfield 13, 3) := by decide +kernel
theorem dX7_put_11 : decode cX7_put 11 = .ok (.sipush 740, 3) := by decide +kernel
theorem dX7_put_14 : decode cX7_put 14 = .ok (.if_icmp .ge 35, 3) := by decide +kernel
theorem dX7_put_17 : decode cX7_put 17 = .ok (.aload_n 0, 1) := by decide +kernel
theorem dX7_put_18 : decode cX7_put 18 = .ok (.getfield 9, 3) := by decide +kernel
theorem dX7_put_21 : decode cX7_put 21 = .ok (.aload_n 0, 1) := by decide +kernel
theorem dX7_put_22 : decode cX7_put 22 = .ok (.getfield 13, 3) := by decide +kernel
theorem dX7_put_25 : decode cX7_put 25 = .ok (.iload_n 1, 1) := by decide +kernel
theorem dX7_put_26 : decode cX7_put 26 = .ok (.iload_n 2, 1) := by decide +kernel
theorem dX7_put_27 : decode cX7_put 27 = .ok (.iushr, 1) := by decide +kernel
theorem dX7_put_28 : decode cX7_put 28 = .ok (.sipush 255, 3) := by decide +kernel
theorem dX7_put_31 : decode cX7_put 31 = .ok (.iand, 1) := by decide +kernel
theorem dX7_put_32 : decode cX7_put 32 = .ok (.iastore, 1) := by decide +kernel
theorem dX7_put_33 : decode cX7_put 33 = .ok (.aload_n 0, 1) := by decide +kernel
theorem dX7_put_34 : decode cX7_put 34 = .ok (.dup, 1) := by decide +kernel
theorem dX7_put_35 : decode cX7_put 35 = .ok (.getfield 13, 3) := by decide +kernel
theorem dX7_put_38 : decode cX7_put 38 = .ok (.iconst 1, 1) := by decide +kernel
theorem dX7_put_39 : decode cX7_put 39 = .ok (.iadd, 1) := by decide +kernel
theorem dX7_put_40 : decode cX7_put 40 = .ok (.putfield 13, 3) := by decide +kernel
theorem dX7_put_43 : decode cX7_put 43 = .ok (.iinc 2 (-8), 3) := by decide +kernel
theorem dX7_put_46 : decode cX7_put 46 = .ok (.goto (-43), 3) := by decide +kernel
theorem dX7_put_49 : decode cX7_put 49 = .ok (.return_, 1) := by decide +kernel
theorem dX8_init_0 : decode cX8_init 0 = .ok (.aload_n 0, 1) := by decide +kernel
theorem dX8_init_1 : decode cX8_init 1 = .ok (.invokespecial 3, 3) := by decide +kernel
theorem dX8_init_4 : decode cX8_init 4 = .ok (.aload_n 0, 1) := by decide +kernel
theorem dX8_init_5 : decode cX8_init 5 = .ok (.bipush 28, 2) := by decide +kernel
theorem dX8_init_7 : decode cX8_init 7 = .ok (.newarray .int, 2) := by decide +kernel
theorem dX8_init_9 : decode cX8_init 9 = .ok (.putfield 9, 3) := by decide +kernel
theorem dX8_init_12 : decode cX8_init 12 = .ok (.aload_n 0, 1) := by decide +kernel
theorem dX8_init_13 : decode cX8_init 13 = .ok (.bipush 28, 2) := by decide +kernel
theorem dX8_init_15 : decode cX8_init 15 = .ok (.newarray .int, 2) := by decide +kernel
theorem dX8_init_17 : decode cX8_init 17 = .ok (.putfield 15, 3) := by decide +kernel
theorem dX8_init_20 : decode cX8_init 20 = .ok (.aload_n 0, 1) := by decide +kernel
theorem dX8_init_21 : decode cX8_init 21 = .ok (.bipush 29, 2) := by decide +kernel
theorem dX8_init_23 : decode cX8_init 23 = .ok (.anewarray 18, 3) := by decide +kernel
theorem dX8_init_26 : decode cX8_init 26 = .ok (.putfield 20, 3) := by decide +kernel
theorem dX8_init_29 : decode cX8_init 29 = .ok (.iconst 0, 1) := by decide +kernel
theorem dX8_init_30 : decode cX8_init 30 = .ok (.istore_n 1, 1) := by decide +kernel
theorem dX8_init_31 : decode cX8_init 31 = .ok (.iload_n 1, 1) := by decide +kernel
theorem dX8_init_32 : decode cX8_init 32 = .ok (.bipush 28, 2) := by decide +kernel
theorem dX8_init_34 : decode cX8_init 34 = .ok (.if_icmp .gt 22, 3) := by decide +kernel
theorem dX8_init_37 : decode cX8_init 37 = .ok (.aload_n 0, 1) := by decide +kernel
theorem dX8_init_38 : decode cX8_init 38 = .ok (.getfield 20, 3) := by decide +kernel
theorem dX8_init_41 : decode cX8_init 41 = .ok (.iload_n 1, 1) := by decide +kernel
theorem dX8_init_42 : decode cX8_init 42 = .ok (.new 18, 3) := by decide +kernel
theorem dX8_init_45 : decode cX8_init 45 = .ok (.dup, 1) := by decide +kernel
theorem dX8_init_46 : decode cX8_init 46 = .ok (.invokespecial 24, 3) := by decide +kernel
theorem dX8_init_49 : decode cX8_init 49 = .ok (.aastore, 1) := by decide +kernel
theorem dX8_init_50 : decode cX8_init 50 = .ok (.iinc 1 1, 3) := by decide +kernel
theorem dX8_init_53 : decode cX8_init 53 = .ok (.goto (-22), 3) := by decide +kernel
theorem dX8_init_56 : decode cX8_init 56 = .ok (.return_, 1) := by decide +kernel
theorem dX8_count_0 : decode cX8_count 0 = .ok (.aload_n 0, 1) := by decide +kernel
theorem dX8_count_1 : decode cX8_count 1 = .ok (.iconst 0, 1) := by decide +kernel
theorem dX8_count_2 : decode cX8_count 2 = .ok (.putfield 25, 3) := by decide +kernel
theorem dX8_count_5 : decode cX8_count 5 = .ok (.iconst 0, 1) := by decide +kernel
theorem dX8_count_6 : decode cX8_count 6 = .ok (.istore_n 2, 1) := by decide +kernel
theorem dX8_count_7 : decode cX8_count 7 = .ok (.iload_n 2, 1) := by decide +kernel
theorem dX8_count_8 : decode cX8_count 8 = .ok (.aload_n 1, 1) := by decide +kernel
theorem dX8_count_9 : decode cX8_count 9 = .ok (.getfield 29, 3) := by decide +kernel
theorem dX8_count_12 : decode cX8_count 12 = .ok (.if_icmp .ge 76, 3) := by decide +kernel
theorem dX8_count_15 : decode cX8_count 15 = .ok (.iload_n 2, 1) := by decide +kernel
theorem dX8_count_16 : decode cX8_count 16 = .ok (.iconst 1, 1) := by decide +kernel
theorem dX8_count_17 : decode cX8_count 17 = .ok (.iadd, 1) := by decide +kernel
theorem dX8_count_18 : decode cX8_count 18 = .ok (.istore_n 3, 1) := by decide +kernel
theorem dX8_count_19 : decode cX8_count 19 = .ok (.iload_n 3, 1) := by decide +kernel
theorem dX8_count_20 : decode cX8_count 20 = .ok (.aload_n 1, 1) := by decide +kernel
theorem dX8_count_21 : decode cX8_count 21 = .ok (.getfield 29, 3) := by decide +kernel
theorem dX8_count_24 : decode cX8_count 24 = .ok (.if_icmp .ge 58, 3) := by decide +kernel
theorem dX8_count_27 : decode cX8_count 27 = .ok (.aload_n 1, 1) := by decide +kernel
theorem dX8_count_28 : decode cX8_count 28 = .ok (.iload_n 2, 1) := by decide +kernel
theorem dX8_count_29 : decode cX8_count 29 = .ok (.iload_n 3, 1) := by decide +kernel
theorem dX8_count_30 : decode cX8_count 30 = .ok (.invokevirtual 34, 3) := by decide +kernel
theorem dX8_count_33 : decode cX8_count 33 = .ok (.iconst (-1), 1) := by decide +kernel
theorem dX8_count_34 : decode cX8_count 34 = .ok (.if_icmp .ne 42, 3) := by decide +kernel
theorem dX8_count_37 : decode cX8_count 37 = .ok (.aload_n 0, 1) := by decide +kernel
theorem dX8_count_38 : decode cX8_count 38 = .ok (.getfield 25, 3) := by decide +kernel
theorem dX8_count_41 : decode cX8_count 41 = .ok (.bipush 28, 2) := by decide +kernel
theorem dX8_count_43 : decode cX8_count 43 = .ok (.if_icmp .ge 33, 3) := by decide +kernel
theorem dX8_count_46 : decode cX8_count 46 = .ok (.aload_n 0, 1) := by decide +kernel
theorem dX8_count_47 : decode cX8_count 47 = .ok (.getfield 9, 3) := by decide +kernel
theorem dX8_count_50 : decode cX8_count 50 = .ok (.aload_n 0, 1) := by decide +kernel
theorem dX8_count_51 : decode cX8_count 51 = .ok (.getfield 25, 3) := by decide +kernel
theorem dX8_count_54 : decode cX8_count 54 = .ok (.iload_n 2, 1) := by decide +kernel
theorem dX8_count_55 : decode cX8_count 55 = .ok (.iastore, 1) := by decide +kernel
theorem dX8_count_56 : decode cX8_count 56 = .ok (.aload_n 0, 1) := by decide +kernel
theorem dX8_count_57 : decode cX8_count 57 = .ok (.getfield 15, 3) := by decide +kernel
theorem dX8_count_60 : decode cX8_count 60 = .ok (.aload_n 0, 1) := by decide +kernel
theorem dX8_count_61 : decode cX8_count 61 = .ok (.getfield 25, 3) := by decide +kernel
theorem dX8_count_64 : decode cX8_count 64 = .ok (.iload_n 3, 1) := by decide +kernel
theorem dX8_count_65 : decode cX8_count 65 = .ok (.iastore, 1) := by decide +kernel
theorem dX8_count_66 : decode cX8_count 66 = .ok (.aload_n 0, 1) := by decide +kernel
theorem dX8_count_67 : decode cX8_count 67 = .ok (.dup, 1) := by decide +kernel
theorem dX8_count_68 : decode cX8_count 68 = .ok (.getfield 25, 3) := by decide +kernel
theorem dX8_count_71 : decode cX8_count 71 = .ok (.iconst 1, 1) := by decide +kernel
theorem dX8_count_72 : decode cX8_count 72 = .ok (.iadd, 1) := by decide +kernel
theorem dX8_count_73 : decode cX8_count 73 = .ok (.putfield 25, 3) := by decide +kernel
theorem dX8_count_76 : decode cX8_count 76 = .ok (.iinc 3 1, 3) := by decide +kernel
theorem dX8_count_79 : decode cX8_count 79 = .ok (.goto (-60), 3) := by decide +kernel
theorem dX8_count_82 : decode cX8_count 82 = .ok (.iinc 2 1, 3) := by decide +kernel
theorem dX8_count_85 : decode cX8_count 85 = .ok (.goto (-78), 3) := by decide +kernel
theorem dX8_count_88 : decode cX8_count 88 = .ok (.aload_n 0, 1) := by decide +kernel
theorem dX8_count_89 : decode cX8_count 89 = .ok (.getfield 20, 3) := by decide +kernel
theorem dX8_count_92 : decode cX8_count 92 = .ok (.iconst 0, 1) := by decide +kernel
theorem dX8_count_93 : decode cX8_count 93 = .ok (.aaload, 1) := by decide +kernel
theorem dX8_count_94 : decode cX8_count 94 = .ok (.aload_n 1, 1) := by decide +kernel
theorem dX8_count_95 : decode cX8_count 95 = .ok (.iconst 0, 1) := by decide +kernel
theorem dX8_count_96 : decode cX8_count 96 = .ok (.invokevirtual 38, 3) := by decide +kernel
theorem dX8_count_99 : decode cX8_count 99 = .ok (.aload_n 0, 1) := by decide +kernel
theorem dX8_count_100 : decode cX8_count 100 = .ok (.iconst 0, 1) := by decide +kernel
theorem dX8_count_101 : decode cX8_count 101 = .ok (.iconst 0, 1) := by decide +kernel
theorem dX8_count_102 : decode cX8_count 102 = .ok (.iconst 0, 1) := by decide +kernel
theorem dX8_count_103 : decode cX8_count 103 = .ok (.invokevirtual 42, 3) := by decide +kernel
theorem dX8_count_106 : decode cX8_count 106 = .ok (.sipush 999, 3) := by decide +kernel
theorem dX8_count_109 : decode cX8_count 109 = .ok (.invokestatic 46, 3) := by decide +kernel
theorem dX8_count_112 : decode cX8_count 112 = .ok (.ireturn, 1) := by decide +kernel
theorem dX8_follow_0 : decode cX8_follow 0 = .ok (.aload_n 0, 1) := by decide +kernel
theorem dX8_follow_1 : decode cX8_follow 1 = .ok (.iload_n 1, 1) := by decide +kernel
theorem dX8_follow_2 : decode cX8_follow 2 = .ok (.iload_n 2, 1) := by decide +kernel
theorem dX8_follow_3 : decode cX8_follow 3 = .ok (.invokevirtual 51, 3) := by decide +kernel
theorem dX8_follow_6 : decode cX8_follow 6 = .ok (.istore 4, 2) := by decide +kernel
theorem dX8_follow_8 : decode cX8_follow 8 = .ok (.iload 4, 2) := by decide +kernel
theorem dX8_follow_10 : decode cX8_follow 10 = .ok (.aload_n 0, 1) := by decide +kernel
theorem dX8_follow_11 : decode cX8_follow 11 = .ok (.getfield 25, 3) := by decide +kernel
theorem dX8_follow_14 : decode cX8_follow 14 = .ok (.if_icmp .ge 9, 3) := by decide +kernel
theorem dX8_follow_17 : decode cX8_follow 17 = .ok (.iload_n 2, 1) := by decide +kernel
theorem dX8_follow_18 : decode cX8_follow 18 = .ok (.bipush 28, 2) := by decide +kernel
theorem dX8_follow_20 : decode cX8_follow 20 = .ok (.if_icmp .lt 7, 3) := by decide +kernel
theorem dX8_follow_23 : decode cX8_follow 23 = .ok (.iload_n 3, 1) := by decide +kernel
theorem dX8_follow_24 : decode cX8_follow 24 = .ok (.iconst 1, 1) := by decide +kernel
theorem dX8_follow_25 : decode cX8_follow 25 = .ok (.iadd, 1) := by decide +kernel
theorem dX8_follow_26 : decode cX8_follow 26 = .ok (.ireturn, 1) := by decide +kernel
theorem dX8_follow_27 : decode cX8_follow 27 = .ok (.aload_n 0, 1) := by decide +kernel
theorem dX8_follow_28 : decode cX8_follow 28 = .ok (.iload 4, 2) := by decide +kernel
theorem dX8_follow_30 : decode cX8_follow 30 = .ok (.iload_n 2, 1) := by decide +kernel
theorem dX8_follow_31 : decode cX8_follow 31 = .ok (.invokevirtual 54, 3) := by decide +kernel
theorem dX8_follow_34 : decode cX8_follow 34 = .ok (.istore 5, 2) := by decide +kernel
theorem dX8_follow_36 : decode cX8_follow 36 = .ok (.aload_n 0, 1) := by decide +kernel
theorem dX8_follow_37 : decode cX8_follow 37 = .ok (.iload 4, 2) := by decide +kernel
theorem dX8_follow_39 : decode cX8_follow 39 = .ok (.iconst 1, 1) := by decide +kernel
theorem dX8_follow_40 : decode cX8_follow 40 = .ok (.iadd, 1) := by decide +kernel
theorem dX8_follow_41 : decode cX8_follow 41 = .ok (.iload_n 2, 1) := by decide +kernel
theorem dX8_follow_42 : decode cX8_follow 42 = .ok (.invokevirtual 51, 3) := by decide +kernel
theorem dX8_follow_45 : decode cX8_follow 45 = .ok (.aload_n 0, 1) := by decide +kernel
theorem dX8_follow_46 : decode cX8_follow 46 = .ok (.getfield 25, 3) := by decide +kernel
theorem dX8_follow_49 : decode cX8_follow 49 = .ok (.if_icmp .lt 11, 3) := by decide +kernel
theorem dX8_follow_52 : decode cX8_follow 52 = .ok (.iload_n 3, 1) := by decide +kernel
theorem dX8_follow_53 : decode cX8_follow 53 = .ok (.iload 5, 2) := by decide +kernel
theorem dX8_follow_55 : decode cX8_follow 55 = .ok (.invokestatic 57, 3) := by decide +kernel
theorem dX8_follow_58 : decode cX8_follow 58 = .ok (.iadd, 1) := by decide +kernel
theorem dX8_follow_59 : decode cX8_follow 59 = .ok (.ireturn, 1) := by decide +kernel
theorem dX8_follow_60 : decode cX8_follow 60 = .ok (.iload_n 3, 1) := by decide +kernel
theorem dX8_follow_61 : decode cX8_follow 61 = .ok (.istore 6, 2) := by decide +kernel
theorem dX8_follow_63 : decode cX8_follow 63 = .ok (.iconst 1, 1) := by decide +kernel
theorem dX8_follow_64 : decode cX8_follow 64 = .ok (.istore 7, 2) := by decide +kernel
theorem dX8_follow_66 : decode cX8_follow 66 = .ok (.iload 7, 2) := by decide +kernel
theorem dX8_follow_68 : decode cX8_follow 68 = .ok (.iconst 4, 1) := by decide +kernel
theorem dX8_follow_69 : decode cX8_follow 69 = .ok (.if_icmp .gt 41, 3) := by decide +kernel
theorem dX8_follow_72 : decode cX8_follow 72 = .ok (.iload 6, 2) := by decide +kernel
theorem dX8_follow_74 : decode cX8_follow 74 = .ok (.sipush 999, 3) := by decide +kernel
theorem dX8_follow_77 : decode cX8_follow 77 = .ok (.if_icmp .gt 33, 3) := by decide +kernel
theorem dX8_follow_80 : decode cX8_follow 80 = .ok (.iload 5, 2) := by decide +kernel
theorem dX8_follow_82 : decode cX8_follow 82 = .ok (.iload 7, 2) := by decide +kernel
theorem dX8_follow_84 : decode cX8_follow 84 = .ok (.iand, 1) := by decide +kernel
theorem dX8_follow_85 : decode cX8_follow 85 = .ok (.ifCond .eq 16, 3) := by decide +kernel
theorem dX8_follow_88 : decode cX8_follow 88 = .ok (.aload_n 0, 1) := by decide +kernel
theorem dX8_follow_89 : decode cX8_follow 89 = .ok (.iload 4, 2) := by decide +kernel
theorem dX8_follow_91 : decode cX8_follow 91 = .ok (.iload_n 2, 1) := by decide +kernel
theorem dX8_follow_92 : decode cX8_follow 92 = .ok (.iload 7, 2) := by decide +kernel
theorem dX8_follow_94 : decode cX8_follow 94 = .ok (.iload 6, 2) := by decide +kernel
theorem dX8_follow_96 : decode cX8_follow 96 = .ok (.invokevirtual 63, 3) := by decide +kernel
theorem dX8_follow_99 : decode cX8_follow 99 = .ok (.istore 6, 2) := by decide +kernel
theorem dX8_follow_101 : decode cX8_follow 101 = .ok (.iload 7, 2) := by decide +kernel
theorem dX8_follow_103 : decode cX8_follow 103 = .ok (.iconst 1, 1) := by decide +kernel
theorem dX8_follow_104 : decode cX8_follow 104 = .ok (.ishl, 1) := by decide +kernel
theorem dX8_follow_105 : decode cX8_follow 105 = .ok (.istore 7, 2) := by decide +kernel
theorem dX8_follow_107 : decode cX8_follow 107 = .ok (.goto (-41), 3) := by decide +kernel
theorem dX8_follow_110 : decode cX8_follow 110 = .ok (.iload 6, 2) := by decide +kernel
theorem dX8_follow_112 : decode cX8_follow 112 = .ok (.ireturn, 1) := by decide +kernel
theorem dX8_nextOpen_0 : decode cX8_nextOpen 0 = .ok (.iload_n 1, 1) := by decide +kernel
theorem dX8_nextOpen_1 : decode cX8_nextOpen 1 = .ok (.istore_n 3, 1) := by decide +kernel
theorem dX8_nextOpen_2 : decode cX8_nextOpen 2 = .ok (.iload_n 3, 1) := by decide +kernel
theorem dX8_nextOpen_3 : decode cX8_nextOpen 3 = .ok (.aload_n 0, 1) := by decide +kernel
theorem dX8_nextOpen_4 : decode cX8_nextOpen 4 = .ok (.getfield 25, 3) := by decide +kernel
theorem dX8_nextOpen_7 : decode cX8_nextOpen 7 = .ok (.if_icmp .ge 22, 3) := by decide +kernel
theorem dX8_nextOpen_10 : decode cX8_nextOpen 10 = .ok (.aload_n 0, 1) := by decide +kernel
theorem dX8_nextOpen_11 : decode cX8_nextOpen 11 = .ok (.iload_n 3, 1) := by decide +kernel
theorem dX8_nextOpen_12 : decode cX8_nextOpen 12 = .ok (.iload_n 2, 1) := by decide +kernel
theorem dX8_nextOpen_13 : decode cX8_nextOpen 13 = .ok (.invokevirtual 54, 3) := by decide +kernel
theorem dX8_nextOpen_16 : decode cX8_nextOpen 16 = .ok (.invokestatic 57, 3) := by decide +kernel
theorem dX8_nextOpen_19 : decode cX8_nextOpen 19 = .ok (.iconst 1, 1) := by decide +kernel
theorem dX8_nextOpen_20 : decode cX8_nextOpen 20 = .ok (.if_icmp .ne 9, 3) := by decide +kernel
theorem dX8_nextOpen_23 : decode cX8_nextOpen 23 = .ok (.iinc 3 1, 3) := by decide +kernel
theorem dX8_nextOpen_26 : decode cX8_nextOpen 26 = .ok (.goto (-24), 3) := by decide +kernel
theorem dX8_nextOpen_29 : decode cX8_nextOpen 29 = .ok (.iload_n 3, 1) := by decide +kernel
theorem dX8_nextOpen_30 : decode cX8_nextOpen 30 = .ok (.ireturn, 1) := by decide +kernel
theorem dX8_branch_0 : decode cX8_branch 0 = .ok (.aload_n 0, 1) := by decide +kernel
theorem dX8_branch_1 : decode cX8_branch 1 = .ok (.getfield 20, 3) := by decide +kernel
theorem dX8_branch_4 : decode cX8_branch 4 = .ok (.iload_n 2, 1) := by decide +kernel
theorem dX8_branch_5 : decode cX8_branch 5 = .ok (.iconst 1, 1) := by decide +kernel
theorem dX8_branch_6 : decode cX8_branch 6 = .ok (.iadd, 1) := by decide +kernel
theorem dX8_branch_7 : decode cX8_branch 7 = .ok (.aaload, 1) := by decide +kernel
theorem dX8_branch_8 : decode cX8_branch 8 = .ok (.astore 5, 2) := by decide +kernel
theorem dX8_branch_10 : decode cX8_branch 10 = .ok (.aload 5, 2) := by decide +kernel
theorem dX8_branch_12 : decode cX8_branch 12 = .ok (.aload_n 0, 1) := by decide +kernel
theorem dX8_branch_13 : decode cX8_branch 13 = .ok (.getfield 20, 3) := by decide +kernel
theorem dX8_branch_16 : decode cX8_branch 16 = .ok (.iload_n 2, 1) := by decide +kernel
theorem dX8_branch_17 : decode cX8_branch 17 = .ok (.aaload, 1) := by decide +kernel
theorem dX8_branch_18 : decode cX8_branch 18 = .ok (.invokevirtual 67, 3) := by decide +kernel
theorem dX8_branch_21 : decode cX8_branch 21 = .ok (.iload_n 3, 1) := by decide +kernel
theorem dX8_branch_22 : decode cX8_branch 22 = .ok (.iconst 2, 1) := by decide +kernel
theorem dX8_branch_23 : decode cX8_branch 23 = .ok (.if_icmp .ne 24, 3) := by decide +kernel
theorem dX8_branch_26 : decode cX8_branch 26 = .ok (.aload 5, 2) := by decide +kernel
theorem dX8_branch_28 : decode cX8_branch 28 = .ok (.iconst 0, 1) := by decide +kernel
theorem dX8_branch_29 : decode cX8_branch 29 = .ok (.aload_n 0, 1) := by decide +kernel
theorem dX8_branch_30 : decode cX8_branch 30 = .ok (.getfield 15, 3) := by decide +kernel
theorem dX8_branch_33 : decode cX8_branch 33 = .ok (.iload_n 1, 1) := by decide +kernel
theorem dX8_branch_34 : decode cX8_branch 34 = .ok (.iaload, 1) := by decide +kernel
theorem dX8_branch_35 : decode cX8_branch 35 = .ok (.aload_n 0, 1) := by decide +kernel
theorem dX8_branch_36 : decode cX8_branch 36 = .ok (.getfield 9, 3) := by decide +kernel
theorem dX8_branch_39 : decode cX8_branch 39 = .ok (.iload_n 1, 1) := by decide +kernel
theorem dX8_branch_40 : decode cX8_branch 40 = .ok (.iaload, 1) := by decide +kernel
theorem dX8_branch_41 : decode cX8_branch 41 = .ok (.invokevirtual 71, 3) := by decide +kernel
theorem dX8_branch_44 : decode cX8_branch 44 = .ok (.goto 30, 3) := by decide +kernel
theorem dX8_branch_47 : decode cX8_branch 47 = .ok (.aload 5, 2) := by decide +kernel
theorem dX8_branch_49 : decode cX8_branch 49 = .ok (.iload_n 3, 1) := by decide +kernel
theorem dX8_branch_50 : decode cX8_branch 50 = .ok (.iconst 1, 1) := by decide +kernel
theorem dX8_branch_51 : decode cX8_branch 51 = .ok (.if_icmp .ne 7, 3) := by decide +kernel
theorem dX8_branch_54 : decode cX8_branch 54 = .ok (.iconst 0, 1) := by decide +kernel
theorem dX8_branch_55 : decode cX8_branch 55 = .ok (.goto 4, 3) := by decide +kernel
theorem dX8_branch_58 : decode cX8_branch 58 = .ok (.iconst 1, 1) := by decide +kernel
theorem dX8_branch_59 : decode cX8_branch 59 = .ok (.aload_n 0, 1) := by decide +kernel
theorem dX8_branch_60 : decode cX8_branch 60 = .ok (.getfield 9, 3) := by decide +kernel
theorem dX8_branch_63 : decode cX8_branch 63 = .ok (.iload_n 1, 1) := by decide +kernel
theorem dX8_branch_64 : decode cX8_branch 64 = .ok (.iaload, 1) := by decide +kernel
theorem dX8_branch_65 : decode cX8_branch 65 = .ok (.aload_n 0, 1) := by decide +kernel
theorem dX8_branch_66 : decode cX8_branch 66 = .ok (.getfield 15, 3) := by decide +kernel
theorem dX8_branch_69 : decode cX8_branch 69 = .ok (.iload_n 1, 1) := by decide +kernel
theorem dX8_branch_70 : decode cX8_branch 70 = .ok (.iaload, 1) := by decide +kernel
theorem dX8_branch_71 : decode cX8_branch 71 = .ok (.invokevirtual 71, 3) := by decide +kernel
theorem dX8_branch_74 : decode cX8_branch 74 = .ok (.aload_n 0, 1) := by decide +kernel
theorem dX8_branch_75 : decode cX8_branch 75 = .ok (.iload_n 1, 1) := by decide +kernel
theorem dX8_branch_76 : decode cX8_branch 76 = .ok (.iconst 1, 1) := by decide +kernel
theorem dX8_branch_77 : decode cX8_branch 77 = .ok (.iadd, 1) := by decide +kernel
theorem dX8_branch_78 : decode cX8_branch 78 = .ok (.iload_n 2, 1) := by decide +kernel
theorem dX8_branch_79 : decode cX8_branch 79 = .ok (.iconst 1, 1) := by decide +kernel
theorem dX8_branch_80 : decode cX8_branch 80 = .ok (.iadd, 1) := by decide +kernel
theorem dX8_branch_81 : decode cX8_branch 81 = .ok (.iload 4, 2) := by decide +kernel
theorem dX8_branch_83 : decode cX8_branch 83 = .ok (.invokevirtual 42, 3) := by decide +kernel
theorem dX8_branch_86 : decode cX8_branch 86 = .ok (.ireturn, 1) := by decide +kernel
theorem dX8_optionsOf_0 : decode cX8_optionsOf 0 = .ok (.aload_n 0, 1) := by decide +kernel
theorem dX8_optionsOf_1 : decode cX8_optionsOf 1 = .ok (.getfield 20, 3) := by decide +kernel
theorem dX8_optionsOf_4 : decode cX8_optionsOf 4 = .ok (.iload_n 2, 1) := by decide +kernel
theorem dX8_optionsOf_5 : decode cX8_optionsOf 5 = .ok (.aaload, 1) := by decide +kernel
theorem dX8_optionsOf_6 : decode cX8_optionsOf 6 = .ok (.aload_n 0, 1) := by decide +kernel
theorem dX8_optionsOf_7 : decode cX8_optionsOf 7 = .ok (.getfield 9, 3) := by decide +kernel
theorem dX8_optionsOf_10 : decode cX8_optionsOf 10 = .ok (.iload_n 1, 1) := by decide +kernel
theorem dX8_optionsOf_11 : decode cX8_optionsOf 11 = .ok (.iaload, 1) := by decide +kernel
theorem dX8_optionsOf_12 : decode cX8_optionsOf 12 = .ok (.aload_n 0, 1) := by decide +kernel
theorem dX8_optionsOf_13 : decode cX8_optionsOf 13 = .ok (.getfield 15, 3) := by decide +kernel
theorem dX8_optionsOf_16 : decode cX8_optionsOf 16 = .ok (.iload_n 1, 1) := by decide +kernel
theorem dX8_optionsOf_17 : decode cX8_optionsOf 17 = .ok (.iaload, 1) := by decide +kernel
theorem dX8_optionsOf_18 : decode cX8_optionsOf 18 = .ok (.invokevirtual 75, 3) := by decide +kernel
theorem dX8_optionsOf_21 : decode cX8_optionsOf 21 = .ok (.ireturn, 1) := by decide +kernel
theorem dX9_init_0 : decode cX9_init 0 = .ok (.aload_n 0, 1) := by decide +kernel
theorem dX9_init_1 : decode cX9_init 1 = .ok (.invokespecial 3, 3) := by decide +kernel
theorem dX9_init_4 : decode cX9_init 4 = .ok (.aload_n 0, 1) := by decide +kernel
theorem dX9_init_5 : decode cX9_init 5 = .ok (.new 9, 3) := by decide +kernel
theorem dX9_init_8 : decode cX9_init 8 = .ok (.dup, 1) := by decide +kernel
theorem dX9_init_9 : decode cX9_init 9 = .ok (.invokespecial 11, 3) := by decide +kernel
theorem dX9_init_12 : decode cX9_init 12 = .ok (.putfield 12, 3) := by decide +kernel
theorem dX9_init_15 : decode cX9_init 15 = .ok (.aload_n 0, 1) := by decide +kernel
theorem dX9_init_16 : decode cX9_init 16 = .ok (.new 9, 3) := by decide +kernel
theorem dX9_init_19 : decode cX9_init 19 = .ok (.dup, 1) := by decide +kernel
theorem dX9_init_20 : decode cX9_init 20 = .ok (.invokespecial 11, 3) := by decide +kernel
theorem dX9_init_23 : decode cX9_init 23 = .ok (.putfield 16, 3) := by decide +kernel
theorem dX9_init_26 : decode cX9_init 26 = .ok (.aload_n 0, 1) := by decide +kernel
theorem dX9_init_27 : decode cX9_init 27 = .ok (.new 19, 3) := by decide +kernel
theorem dX9_init_30 : decode cX9_init 30 = .ok (.dup, 1) := by decide +kernel
theorem dX9_init_31 : decode cX9_init 31 = .ok (.invokespecial 21, 3) := by decide +kernel
theorem dX9_init_34 : decode cX9_init 34 = .ok (.putfield 22, 3) := by decide +kernel
theorem dX9_init_37 : decode cX9_init 37 = .ok (.aload_n 0, 1) := by decide +kernel
theorem dX9_init_38 : decode cX9_init 38 = .ok (.iconst 2, 1) := by decide +kernel
theorem dX9_init_39 : decode cX9_init 39 = .ok (.anewarray 9, 3) := by decide +kernel
theorem dX9_init_42 : decode cX9_init 42 = .ok (.putfield 26, 3) := by decide +kernel
theorem dX9_init_45 : decode cX9_init 45 = .ok (.iconst 0, 1) := by decide +kernel
theorem dX9_init_46 : decode cX9_init 46 = .ok (.istore_n 1, 1) := by decide +kernel
theorem dX9_init_47 : decode cX9_init 47 = .ok (.iload_n 1, 1) := by decide +kernel
theorem dX9_init_48 : decode cX9_init 48 = .ok (.iconst 2, 1) := by decide +kernel
theorem dX9_init_49 : decode cX9_init 49 = .ok (.if_icmp .ge 22, 3) := by decide +kernel
theorem dX9_init_52 : decode cX9_init 52 = .ok (.aload_n 0, 1) := by decide +kernel
theorem dX9_init_53 : decode cX9_init 53 = .ok (.getfield 26, 3) := by decide +kernel
theorem dX9_init_56 : decode cX9_init 56 = .ok (.iload_n 1, 1) := by decide +kernel
theorem dX9_init_57 : decode cX9_init 57 = .ok (.new 9, 3) := by decide +kernel
theorem dX9_init_60 : decode cX9_init 60 = .ok (.dup, 1) := by decide +kernel
theorem dX9_init_61 : decode cX9_init 61 = .ok (.invokespecial 11, 3) := by decide +kernel
theorem dX9_init_64 : decode cX9_init 64 = .ok (.aastore, 1) := by decide +kernel
theorem dX9_init_65 : decode cX9_init 65 = .ok (.iinc 1 1, 3) := by decide +kernel
theorem dX9_init_68 : decode cX9_init 68 = .ok (.goto (-21), 3) := by decide +kernel
theorem dX9_init_71 : decode cX9_init 71 = .ok (.aload_n 0, 1) := by decide +kernel
theorem dX9_init_72 : decode cX9_init 72 = .ok (.iconst 2, 1) := by decide +kernel
theorem dX9_init_73 : decode cX9_init 73 = .ok (.newarray .boolean, 2) := by decide +kernel
theorem dX9_init_75 : decode cX9_init 75 = .ok (.putfield 30, 3) := by decide +kernel
theorem dX9_init_78 : decode cX9_init 78 = .ok (.aload_n 0, 1) := by decide +kernel
theorem dX9_init_79 : decode cX9_init 79 = .ok (.new 34, 3) := by decide +kernel
theorem dX9_init_82 : decode cX9_init 82 = .ok (.dup, 1) := by decide +kernel
theorem dX9_init_83 : decode cX9_init 83 = .ok (.invokespecial 36, 3) := by decide +kernel
theorem dX9_init_86 : decode cX9_init 86 = .ok (.putfield 37, 3) := by decide +kernel
theorem dX9_init_89 : decode cX9_init 89 = .ok (.aload_n 0, 1) := by decide +kernel
theorem dX9_init_90 : decode cX9_init 90 = .ok (.new 34, 3) := by decide +kernel
theorem dX9_init_93 : decode cX9_init 93 = .ok (.dup, 1) := by decide +kernel
theorem dX9_init_94 : decode cX9_init 94 = .ok (.invokespecial 36, 3) := by decide +kernel
theorem dX9_init_97 : decode cX9_init 97 = .ok (.putfield 41, 3) := by decide +kernel
theorem dX9_init_100 : decode cX9_init 100 = .ok (.aload_n 0, 1) := by decide +kernel
theorem dX9_init_101 : decode cX9_init 101 = .ok (.new 44, 3) := by decide +kernel
theorem dX9_init_104 : decode cX9_init 104 = .ok (.dup, 1) := by decide +kernel
theorem dX9_init_105 : decode cX9_init 105 = .ok (.invokespecial 46, 3) := by decide +kernel
theorem dX9_init_108 : decode cX9_init 108 = .ok (.putfield 47, 3) := by decide +kernel
theorem dX9_init_111 : decode cX9_init 111 = .ok (.aload_n 0, 1) := by decide +kernel
theorem dX9_init_112 : decode cX9_init 112 = .ok (.new 51, 3) := by decide +kernel
theorem dX9_init_115 : decode cX9_init 115 = .ok (.dup, 1) := by decide +kernel
theorem dX9_init_116 : decode cX9_init 116 = .ok (.invokespecial 53, 3) := by decide +kernel
theorem dX9_init_119 : decode cX9_init 119 = .ok (.putfield 54, 3) := by decide +kernel
theorem dX9_init_122 : decode cX9_init 122 = .ok (.aload_n 0, 1) := by decide +kernel
theorem dX9_init_123 : decode cX9_init 123 = .ok (.new 58, 3) := by decide +kernel
theorem dX9_init_126 : decode cX9_init 126 = .ok (.dup, 1) := by decide +kernel
theorem dX9_init_127 : decode cX9_init 127 = .ok (.invokespecial 60, 3) := by decide +kernel
theorem dX9_init_130 : decode cX9_init 130 = .ok (.putfield 61, 3) := by decide +kernel
theorem dX9_init_133 : decode cX9_init 133 = .ok (.aload_n 0, 1) := by decide +kernel
theorem dX9_init_134 : decode cX9_init 134 = .ok (.new 65, 3) := by decide +kernel
theorem dX9_init_137 : decode cX9_init 137 = .ok (.dup, 1) := by decide +kernel
theorem dX9_init_138 : decode cX9_init 138 = .ok (.invokespecial 67, 3) := by decide +kernel
theorem dX9_init_141 : decode cX9_init 141 = .ok (.putfield 68, 3) := by decide +kernel
theorem dX9_init_144 : decode cX9_init 144 = .ok (.aload_n 0, 1) := by decide +kernel
theorem dX9_init_145 : decode cX9_init 145 = .ok (.bipush 8, 2) := by decide +kernel
theorem dX9_init_147 : decode cX9_init 147 = .ok (.newarray .int, 2) := by decide +kernel
theorem dX9_init_149 : decode cX9_init 149 = .ok (.putfield 72, 3) := by decide +kernel
theorem dX9_init_152 : decode cX9_init 152 = .ok (.aload_n 0, 1) := by decide +kernel
theorem dX9_init_153 : decode cX9_init 153 = .ok (.new 76, 3) := by decide +kernel
theorem dX9_init_156 : decode cX9_init 156 = .ok (.dup, 1) := by decide +kernel
theorem dX9_init_157 : decode cX9_init 157 = .ok (.invokespecial 78, 3) := by decide +kernel
theorem dX9_init_160 : decode cX9_init 160 = .ok (.putfield 79, 3) := by decide +kernel
theorem dX9_init_163 : decode cX9_init 163 = .ok (.aload_n 0, 1) := by decide +kernel
theorem dX9_init_164 : decode cX9_init 164 = .ok (.new 83, 3) := by decide +kernel
theorem dX9_init_167 : decode cX9_init 167 = .ok (.dup, 1) := by decide +kernel
theorem dX9_init_168 : decode cX9_init 168 = .ok (.aload_n 0, 1) := by decide +kernel
theorem dX9_init_169 : decode cX9_init 169 = .ok (.getfield 79, 3) := by decide +kernel
theorem dX9_init_172 : decode cX9_init 172 = .ok (.aload_n 0, 1) := by decide +kernel
theorem dX9_init_173 : decode cX9_init 173 = .ok (.getfield 37, 3) := by decide +kernel
theorem dX9_init_176 : decode cX9_init 176 = .ok (.invokespecial 85, 3) := by decide +kernel
theorem dX9_init_179 : decode cX9_init 179 = .ok (.putfield 88, 3) := by decide +kernel
theorem dX9_init_182 : decode cX9_init 182 = .ok (.aload_n 0, 1) := by decide +kernel
theorem dX9_init_183 : decode cX9_init 183 = .ok (.iconst 0, 1) := by decide +kernel
theorem dX9_init_184 : decode cX9_init 184 = .ok (.putfield 92, 3) := by decide +kernel
theorem dX9_init_187 : decode cX9_init 187 = .ok (.return_, 1) := by decide +kernel
theorem dX9_feed_0 : decode cX9_feed 0 = .ok (.aload_n 0, 1) := by decide +kernel
theorem dX9_feed_1 : decode cX9_feed 1 = .ok (.getfield 79, 3) := by decide +kernel
theorem dX9_feed_4 : decode cX9_feed 4 = .ok (.getfield 96, 3) := by decide +kernel
theorem dX9_feed_7 : decode cX9_feed 7 = .ok (.bipush 20, 2) := by decide +kernel
theorem dX9_feed_9 : decode cX9_feed 9 = .ok (.iadd, 1) := by decide +kernel
theorem dX9_feed_10 : decode cX9_feed 10 = .ok (.sipush 740, 3) := by decide +kernel
theorem dX9_feed_13 : decode cX9_feed 13 = .ok (.if_icmp .le 5, 3) := by decide +kernel
theorem dX9_feed_16 : decode cX9_feed 16 = .ok (.iconst (-1), 1) := by decide +kernel
theorem dX9_feed_17 : decode cX9_feed 17 = .ok (.ireturn, 1) := by decide +kernel
theorem dX9_feed_18 : decode cX9_feed 18 = .ok (.aload_n 0, 1) := by decide +kernel
theorem dX9_feed_19 : decode cX9_feed 19 = .ok (.getfield 79, 3) := by decide +kernel
theorem dX9_feed_22 : decode cX9_feed 22 = .ok (.iload_n 1, 1) := by decide +kernel
theorem dX9_feed_23 : decode cX9_feed 23 = .ok (.invokevirtual 99, 3) := by decide +kernel
theorem dX9_feed_26 : decode cX9_feed 26 = .ok (.aload_n 0, 1) := by decide +kernel
theorem dX9_feed_27 : decode cX9_feed 27 = .ok (.getfield 79, 3) := by decide +kernel
theorem dX9_feed_30 : decode cX9_feed 30 = .ok (.iload_n 2, 1) := by decide +kernel
theorem dX9_feed_31 : decode cX9_feed 31 = .ok (.invokevirtual 99, 3) := by decide +kernel
theorem dX9_feed_34 : decode cX9_feed 34 = .ok (.aload_n 0, 1) := by decide +kernel
theorem dX9_feed_35 : decode cX9_feed 35 = .ok (.getfield 79, 3) := by decide +kernel
theorem dX9_feed_38 : decode cX9_feed 38 = .ok (.iload_n 3, 1) := by decide +kernel
theorem dX9_feed_39 : decode cX9_feed 39 = .ok (.invokevirtual 99, 3) := by decide +kernel
theorem dX9_feed_42 : decode cX9_feed 42 = .ok (.aload_n 0, 1) := by decide +kernel
theorem dX9_feed_43 : decode cX9_feed 43 = .ok (.getfield 79, 3) := by decide +kernel
theorem dX9_feed_46 : decode cX9_feed 46 = .ok (.iload 4, 2) := by decide +kernel
theorem dX9_feed_48 : decode cX9_feed 48 = .ok (.invokevirtual 99, 3) := by decide +kernel
theorem dX9_feed_51 : decode cX9_feed 51 = .ok (.aload_n 0, 1) := by decide +kernel
theorem dX9_feed_52 : decode cX9_feed 52 = .ok (.getfield 79, 3) := by decide +kernel
theorem dX9_feed_55 : decode cX9_feed 55 = .ok (.iload 5, 2) := by decide +kernel
theorem dX9_feed_57 : decode cX9_feed 57 = .ok (.invokevirtual 99, 3) := by decide +kernel
theorem dX9_feed_60 : decode cX9_feed 60 = .ok (.aload_n 0, 1) := by decide +kernel
theorem dX9_feed_61 : decode cX9_feed 61 = .ok (.getfield 79, 3) := by decide +kernel
theorem dX9_feed_64 : decode cX9_feed 64 = .ok (.getfield 96, 3) := by decide +kernel
theorem dX9_feed_67 : decode cX9_feed 67 = .ok (.ireturn, 1) := by decide +kernel
theorem dX9_end_0 : decode cX9_end 0 = .ok (.iload_n 1, 1) := by decide +kernel
theorem dX9_end_1 : decode cX9_end 1 = .ok (.ifCond .lt 14, 3) := by decide +kernel
theorem dX9_end_4 : decode cX9_end 4 = .ok (.iload_n 1, 1) := by decide +kernel
theorem dX9_end_5 : decode cX9_end 5 = .ok (.aload_n 0, 1) := by decide +kernel
theorem dX9_end_6 : decode cX9_end 6 = .ok (.getfield 79, 3) := by decide +kernel
theorem dX9_end_9 : decode cX9_end 9 = .ok (.getfield 96, 3) := by decide +kernel
theorem dX9_end_12 : decode cX9_end 12 = .ok (.if_icmp .le 5, 3) := by decide +kernel
theorem dX9_end_15 : decode cX9_end 15 = .ok (.iconst 0, 1) := by decide +kernel
theorem dX9_end_16 : decode cX9_end 16 = .ok (.ireturn, 1) := by decide +kernel
theorem dX9_end_17 : decode cX9_end 17 = .ok (.aload_n 0, 1) := by decide +kernel
theorem dX9_end_18 : decode cX9_end 18 = .ok (.getfield 79, 3) := by decide +kernel
theorem dX9_end_21 : decode cX9_end 21 = .ok (.iload_n 1, 1) := by decide +kernel
theorem dX9_end_22 : decode cX9_end 22 = .ok (.putfield 96, 3) := by decide +kernel
theorem dX9_end_25 : decode cX9_end 25 = .ok (.iconst 1, 1) := by decide +kernel
theorem dX9_end_26 : decode cX9_end 26 = .ok (.ireturn, 1) := by decide +kernel
theorem dX9_notes_0 : decode cX9_notes 0 = .ok (.aload_n 0, 1) := by decide +kernel
theorem dX9_notes_1 : decode cX9_notes 1 = .ok (.getfield 88, 3) := by decide +kernel
theorem dX9_notes_4 : decode cX9_notes 4 = .ok (.invokevirtual 103, 3) := by decide +kernel
theorem dX9_notes_7 : decode cX9_notes 7 = .ok (.istore_n 1, 1) := by decide +kernel
theorem dX9_notes_8 : decode cX9_notes 8 = .ok (.aload_n 0, 1) := by decide +kernel
theorem dX9_notes_9 : decode cX9_notes 9 = .ok (.getfield 79, 3) := by decide +kernel
theorem dX9_notes_12 : decode cX9_notes 12 = .ok (.iconst 0, 1) := by decide +kernel
theorem dX9_notes_13 : decode cX9_notes 13 = .ok (.putfield 96, 3) := by decide +kernel
theorem dX9_notes_16 : decode cX9_notes 16 = .ok (.aload_n 0, 1) := by decide +kernel
theorem dX9_notes_17 : decode cX9_notes 17 = .ok (.getfield 88, 3) := by decide +kernel
theorem dX9_notes_20 : decode cX9_notes 20 = .ok (.getfield 107, 3) := by decide +kernel
theorem dX9_notes_23 : decode cX9_notes 23 = .ok (.ifCond .ne 25, 3) := by decide +kernel
theorem dX9_notes_26 : decode cX9_notes 26 = .ok (.aload_n 0, 1) := by decide +kernel
theorem dX9_notes_27 : decode cX9_notes 27 = .ok (.getfield 12, 3) := by decide +kernel
theorem dX9_notes_30 : decode cX9_notes 30 = .ok (.aload_n 0, 1) := by decide +kernel
theorem dX9_notes_31 : decode cX9_notes 31 = .ok (.getfield 88, 3) := by decide +kernel
theorem dX9_notes_34 : decode cX9_notes 34 = .ok (.getfield 110, 3) := by decide +kernel
theorem dX9_notes_37 : decode cX9_notes 37 = .ok (.invokevirtual 113, 3) := by decide +kernel
theorem dX9_notes_40 : decode cX9_notes 40 = .ok (.aload_n 0, 1) := by decide +kernel
theorem dX9_notes_41 : decode cX9_notes 41 = .ok (.getfield 22, 3) := by decide +kernel
theorem dX9_notes_44 : decode cX9_notes 44 = .ok (.iconst 0, 1) := by decide +kernel
theorem dX9_notes_45 : decode cX9_notes 45 = .ok (.putfield 117, 3) := by decide +kernel
theorem dX9_notes_48 : decode cX9_notes 48 = .ok (.iload_n 1, 1) := by decide +kernel
theorem dX9_notes_49 : decode cX9_notes 49 = .ok (.ireturn, 1) := by decide +kernel
theorem dX9_fault_0 : decode cX9_fault 0 = .ok (.aload_n 0, 1) := by decide +kernel
theorem dX9_fault_1 : decode cX9_fault 1 = .ok (.getfield 88, 3) := by decide +kernel
theorem dX9_fault_4 : decode cX9_fault 4 = .ok (.getfield 107, 3) := by decide +kernel
theorem dX9_fault_7 : decode cX9_fault 7 = .ok (.ireturn, 1) := by decide +kernel
theorem dX9_now_0 : decode cX9_now 0 = .ok (.iload_n 1, 1) := by decide +kernel
theorem dX9_now_1 : decode cX9_now 1 = .ok (.tableswitch 98 0 5 #[39, 47, 55, 63, 82, 90], 39) := by decide +kernel
theorem dX9_now_40 : decode cX9_now 40 = .ok (.aload_n 0, 1) := by decide +kernel
theorem dX9_now_41 : decode cX9_now 41 = .ok (.getfield 12, 3) := by decide +kernel
theorem dX9_now_44 : decode cX9_now 44 = .ok (.getfield 120, 3) := by decide +kernel
theorem dX9_now_47 : decode cX9_now 47 = .ok (.ireturn, 1) := by decide +kernel
theorem dX9_now_48 : decode cX9_now 48 = .ok (.aload_n 0, 1) := by decide +kernel
theorem dX9_now_49 : decode cX9_now 49 = .ok (.getfield 12, 3) := by decide +kernel
theorem dX9_now_52 : decode cX9_now 52 = .ok (.getfield 123, 3) := by decide +kernel
theorem dX9_now_55 : decode cX9_now 55 = .ok (.ireturn, 1) := by decide +kernel
theorem dX9_now_56 : decode cX9_now 56 = .ok (.aload_n 0, 1) := by decide +kernel
theorem dX9_now_57 : decode cX9_now 57 = .ok (.getfield 12, 3) := by decide +kernel
theorem dX9_now_60 : decode cX9_now 60 = .ok (.invokevirtual 124, 3) := by decide +kernel
theorem dX9_now_63 : decode cX9_now 63 = .ok (.ireturn, 1) := by decide +kernel
theorem dX9_now_64 : decode cX9_now 64 = .ok (.aload_n 0, 1) := by decide +kernel
theorem dX9_now_65 : decode cX9_now 65 = .ok (.getfield 54, 3) := by decide +kernel
theorem dX9_now_68 : decode cX9_now 68 = .ok (.aload_n 0, 1) := by decide +kernel
theorem dX9_now_69 : decode cX9_now 69 = .ok (.getfield 12, 3) := by decide +kernel
theorem dX9_now_72 : decode cX9_now 72 = .ok (.invokevirtual 127, 3) := by decide +kernel
theorem dX9_now_75 : decode cX9_now 75 = .ok (.aload_n 0, 1) := by decide +kernel
theorem dX9_now_76 : decode cX9_now 76 = .ok (.getfield 54, 3) := by decide +kernel
theorem dX9_now_79 : decode cX9_now 79 = .ok (.getfield 130, 3) := by decide +kernel
theorem dX9_now_82 : decode cX9_now 82 = .ok (.ireturn, 1) := by decide +kernel
theorem dX9_now_83 : decode cX9_now 83 = .ok (.aload_n 0, 1) := by decide +kernel
theorem dX9_now_84 : decode cX9_now 84 = .ok (.getfield 22, 3) := by decide +kernel
theorem dX9_now_87 : decode cX9_now 87 = .ok (.getfield 117, 3) := by decide +kernel
theorem dX9_now_90 : decode cX9_now 90 = .ok (.ireturn, 1) := by decide +kernel
theorem dX9_now_91 : decode cX9_now 91 = .ok (.aload_n 0, 1) := by decide +kernel
theorem dX9_now_92 : decode cX9_now 92 = .ok (.getfield 79, 3) := by decide +kernel
theorem dX9_now_95 : decode cX9_now 95 = .ok (.getfield 96, 3) := by decide +kernel
theorem dX9_now_98 : decode cX9_now 98 = .ok (.ireturn, 1) := by decide +kernel
theorem dX9_now_99 : decode cX9_now 99 = .ok (.iconst (-1), 1) := by decide +kernel
theorem dX9_now_100 : decode cX9_now 100 = .ok (.ireturn, 1) := by decide +kernel
theorem dX9_fact_0 : decode cX9_fact 0 = .ok (.aload_n 0, 1) := by decide +kernel
theorem dX9_fact_1 : decode cX9_fact 1 = .ok (.getfield 12, 3) := by decide +kernel
theorem dX9_fact_4 : decode cX9_fact 4 = .ok (.iload_n 1, 1) := by decide +kernel
theorem dX9_fact_5 : decode cX9_fact 5 = .ok (.invokevirtual 133, 3) := by decide +kernel
theorem dX9_fact_8 : decode cX9_fact 8 = .ok (.ifCond .eq 12, 3) := by decide +kernel
theorem dX9_fact_11 : decode cX9_fact 11 = .ok (.iload_n 2, 1) := by decide +kernel
theorem dX9_fact_12 : decode cX9_fact 12 = .ok (.ifCond .lt 8, 3) := by decide +kernel
theorem dX9_fact_15 : decode cX9_fact 15 = .ok (.iload_n 2, 1) := by decide +kernel
theorem dX9_fact_16 : decode cX9_fact 16 = .ok (.iconst 2, 1) := by decide +kernel
theorem dX9_fact_17 : decode cX9_fact 17 = .ok (.if_icmp .le 13, 3) := by decide +kernel
theorem dX9_fact_20 : decode cX9_fact 20 = .ok (.new 137, 3) := by decide +kernel
theorem dX9_fact_23 : decode cX9_fact 23 = .ok (.dup, 1) := by decide +kernel
theorem dX9_fact_24 : decode cX9_fact 24 = .ok (.ldc 139, 2) := by decide +kernel
theorem dX9_fact_26 : decode cX9_fact 26 = .ok (.invokespecial 141, 3) := by decide +kernel
theorem dX9_fact_29 : decode cX9_fact 29 = .ok (.athrow, 1) := by decide +kernel
theorem dX9_fact_30 : decode cX9_fact 30 = .ok (.iload_n 2, 1) := by decide +kernel
theorem dX9_fact_31 : decode cX9_fact 31 = .ok (.ifCond .ne 13, 3) := by decide +kernel
theorem dX9_fact_34 : decode cX9_fact 34 = .ok (.aload_n 0, 1) := by decide +kernel
theorem dX9_fact_35 : decode cX9_fact 35 = .ok (.getfield 12, 3) := by decide +kernel
theorem dX9_fact_38 : decode cX9_fact 38 = .ok (.getfield 144, 3) := by decide +kernel
theorem dX9_fact_41 : decode cX9_fact 41 = .ok (.iload_n 1, 1) := by decide +kernel
theorem dX9_fact_42 : decode cX9_fact 42 = .ok (.iaload, 1) := by decide +kernel
theorem dX9_fact_43 : decode cX9_fact 43 = .ok (.ireturn, 1) := by decide +kernel
theorem dX9_fact_44 : decode cX9_fact 44 = .ok (.iload_n 2, 1) := by decide +kernel
theorem dX9_fact_45 : decode cX9_fact 45 = .ok (.iconst 1, 1) := by decide +kernel
theorem dX9_fact_46 : decode cX9_fact 46 = .ok (.if_icmp .ne 15, 3) := by decide +kernel
theorem dX9_fact_49 : decode cX9_fact 49 = .ok (.aload_n 0, 1) := by decide +kernel
theorem dX9_fact_50 : decode cX9_fact 50 = .ok (.getfield 12, 3) := by decide +kernel
theorem dX9_fact_53 : decode cX9_fact 53 = .ok (.getfield 147, 3) := by decide +kernel
theorem dX9_fact_56 : decode cX9_fact 56 = .ok (.iload_n 1, 1) := by decide +kernel
theorem dX9_fact_57 : decode cX9_fact 57 = .ok (.iaload, 1) := by decide +kernel
theorem dX9_fact_58 : decode cX9_fact 58 = .ok (.goto 12, 3) := by decide +kernel
theorem dX9_fact_61 : decode cX9_fact 61 = .ok (.aload_n 0, 1) := by decide +kernel
theorem dX9_fact_62 : decode cX9_fact 62 = .ok (.getfield 12, 3) := by decide +kernel
theorem dX9_fact_65 : decode cX9_fact 65 = .ok (.getfield 150, 3) := by decide +kernel
theorem dX9_fact_68 : decode cX9_fact 68 = .ok (.iload_n 1, 1) := by decide +kernel
theorem dX9_fact_69 : decode cX9_fact 69 = .ok (.iaload, 1) := by decide +kernel
theorem dX9_fact_70 : decode cX9_fact 70 = .ok (.ireturn, 1) := by decide +kernel
theorem dX9_about_0 : decode cX9_about 0 = .ok (.aload_n 0, 1) := by decide +kernel
theorem dX9_about_1 : decode cX9_about 1 = .ok (.getfield 12, 3) := by decide +kernel
theorem dX9_about_4 : decode cX9_about 4 = .ok (.iload_n 1, 1) := by decide +kernel
theorem dX9_about_5 : decode cX9_about 5 = .ok (.iload_n 2, 1) := by decide +kernel
theorem dX9_about_6 : decode cX9_about 6 = .ok (.invokevirtual 153, 3) := by decide +kernel
theorem dX9_about_9 : decode cX9_about 9 = .ok (.ifCond .eq 15, 3) := by decide +kernel
theorem dX9_about_12 : decode cX9_about 12 = .ok (.aload_n 0, 1) := by decide +kernel
theorem dX9_about_13 : decode cX9_about 13 = .ok (.getfield 12, 3) := by decide +kernel
theorem dX9_about_16 : decode cX9_about 16 = .ok (.iload_n 1, 1) := by decide +kernel
theorem dX9_about_17 : decode cX9_about 17 = .ok (.iload_n 2, 1) := by decide +kernel
theorem dX9_about_18 : decode cX9_about 18 = .ok (.invokevirtual 157, 3) := by decide +kernel
theorem dX9_about_21 : decode cX9_about 21 = .ok (.goto 4, 3) := by decide +kernel
theorem dX9_about_24 : decode cX9_about 24 = .ok (.iconst (-1), 1) := by decide +kernel
theorem dX9_about_25 : decode cX9_about 25 = .ok (.ireturn, 1) := by decide +kernel
theorem dX9_tell_0 : decode cX9_tell 0 = .ok (.aload_n 0, 1) := by decide +kernel
theorem dX9_tell_1 : decode cX9_tell 1 = .ok (.iload_n 1, 1) := by decide +kernel
theorem dX9_tell_2 : decode cX9_tell 2 = .ok (.iload_n 2, 1) := by decide +kernel
theorem dX9_tell_3 : decode cX9_tell 3 = .ok (.iload_n 3, 1) := by decide +kernel
theorem dX9_tell_4 : decode cX9_tell 4 = .ok (.invokevirtual 161, 3) := by decide +kernel
theorem dX9_tell_7 : decode cX9_tell 7 = .ok (.ifCond .ne 5, 3) := by decide +kernel
theorem dX9_tell_10 : decode cX9_tell 10 = .ok (.iconst (-1), 1) := by decide +kernel
theorem dX9_tell_11 : decode cX9_tell 11 = .ok (.ireturn, 1) := by decide +kernel
theorem dX9_tell_12 : decode cX9_tell 12 = .ok (.aload_n 0, 1) := by decide +kernel
theorem dX9_tell_13 : decode cX9_tell 13 = .ok (.getfield 37, 3) := by decide +kernel
theorem dX9_tell_16 : decode cX9_tell 16 = .ok (.aload_n 0, 1) := by decide +kernel
theorem dX9_tell_17 : decode cX9_tell 17 = .ok (.getfield 12, 3) := by decide +kernel
theorem dX9_tell_20 : decode cX9_tell 20 = .ok (.iconst 0, 1) := by decide +kernel
theorem dX9_tell_21 : decode cX9_tell 21 = .ok (.iload_n 1, 1) := by decide +kernel
theorem dX9_tell_22 : decode cX9_tell 22 = .ok (.iload_n 2, 1) := by decide +kernel
theorem dX9_tell_23 : decode cX9_tell 23 = .ok (.iload_n 3, 1) := by decide +kernel
theorem dX9_tell_24 : decode cX9_tell 24 = .ok (.invokevirtual 165, 3) := by decide +kernel
theorem dX9_tell_27 : decode cX9_tell 27 = .ok (.ifCond .eq 6, 3) := by decide +kernel
theorem dX9_tell_30 : decode cX9_tell 30 = .ok (.bipush (-2), 2) := by decide +kernel
theorem dX9_tell_32 : decode cX9_tell 32 = .ok (.ireturn, 1) := by decide +kernel
theorem dX9_tell_33 : decode cX9_tell 33 = .ok (.aload_n 0, 1) := by decide +kernel
theorem dX9_tell_34 : decode cX9_tell 34 = .ok (.getfield 22, 3) := by decide +kernel
theorem dX9_tell_37 : decode cX9_tell 37 = .ok (.aload_n 0, 1) := by decide +kernel
theorem dX9_tell_38 : decode cX9_tell 38 = .ok (.getfield 12, 3) := by decide +kernel
theorem dX9_tell_41 : decode cX9_tell 41 = .ok (.invokevirtual 169, 3) := by decide +kernel
theorem dX9_tell_44 : decode cX9_tell 44 = .ok (.aload_n 0, 1) := by decide +kernel
theorem dX9_tell_45 : decode cX9_tell 45 = .ok (.getfield 12, 3) := by decide +kernel
theorem dX9_tell_48 : decode cX9_tell 48 = .ok (.iload_n 1, 1) := by decide +kernel
theorem dX9_tell_49 : decode cX9_tell 49 = .ok (.iload_n 2, 1) := by decide +kernel
theorem dX9_tell_50 : decode cX9_tell 50 = .ok (.iload_n 3, 1) := by decide +kernel
theorem dX9_tell_51 : decode cX9_tell 51 = .ok (.invokevirtual 172, 3) := by decide +kernel
theorem dX9_tell_54 : decode cX9_tell 54 = .ok (.aload_n 0, 1) := by decide +kernel
theorem dX9_tell_55 : decode cX9_tell 55 = .ok (.getfield 12, 3) := by decide +kernel
theorem dX9_tell_58 : decode cX9_tell 58 = .ok (.getfield 123, 3) := by decide +kernel
theorem dX9_tell_61 : decode cX9_tell 61 = .ok (.iconst 1, 1) := by decide +kernel
theorem dX9_tell_62 : decode cX9_tell 62 = .ok (.isub, 1) := by decide +kernel
theorem dX9_tell_63 : decode cX9_tell 63 = .ok (.ireturn, 1) := by decide +kernel
theorem dX9_refuted_0 : decode cX9_refuted 0 = .ok (.aload_n 0, 1) := by decide +kernel
theorem dX9_refuted_1 : decode cX9_refuted 1 = .ok (.getfield 37, 3) := by decide +kernel
theorem dX9_refuted_4 : decode cX9_refuted 4 = .ok (.getfield 176, 3) := by decide +kernel
theorem dX9_refuted_7 : decode cX9_refuted 7 = .ok (.ifCond .ne 5, 3) := by decide +kernel
theorem dX9_refuted_10 : decode cX9_refuted 10 = .ok (.iconst (-1), 1) := by decide +kernel
theorem dX9_refuted_11 : decode cX9_refuted 11 = .ok (.ireturn, 1) := by decide +kernel
theorem dX9_refuted_12 : decode cX9_refuted 12 = .ok (.iload_n 1, 1) := by decide +kernel
theorem dX9_refuted_13 : decode cX9_refuted 13 = .ok (.tableswitch 63 0 3 #[31, 39, 47, 55], 31) := by decide +kernel
theorem dX9_refuted_44 : decode cX9_refuted 44 = .ok (.aload_n 0, 1) := by decide +kernel
theorem dX9_refuted_45 : decode cX9_refuted 45 = .ok (.getfield 37, 3) := by decide +kernel
theorem dX9_refuted_48 : decode cX9_refuted 48 = .ok (.getfield 176, 3) := by decide +kernel
theorem dX9_refuted_51 : decode cX9_refuted 51 = .ok (.ireturn, 1) := by decide +kernel
theorem dX9_refuted_52 : decode cX9_refuted 52 = .ok (.aload_n 0, 1) := by decide +kernel
theorem dX9_refuted_53 : decode cX9_refuted 53 = .ok (.getfield 37, 3) := by decide +kernel
theorem dX9_refuted_56 : decode cX9_refuted 56 = .ok (.getfield 177, 3) := by decide +kernel
theorem dX9_refuted_59 : decode cX9_refuted 59 = .ok (.ireturn, 1) := by decide +kernel
theorem dX9_refuted_60 : decode cX9_refuted 60 = .ok (.aload_n 0, 1) := by decide +kernel
theorem dX9_refuted_61 : decode cX9_refuted 61 = .ok (.getfield 37, 3) := by decide +kernel
theorem dX9_refuted_64 : decode cX9_refuted 64 = .ok (.getfield 180, 3) := by decide +kernel
theorem dX9_refuted_67 : decode cX9_refuted 67 = .ok (.ireturn, 1) := by decide +kernel
theorem dX9_refuted_68 : decode cX9_refuted 68 = .ok (.aload_n 0, 1) := by decide +kernel
theorem dX9_refuted_69 : decode cX9_refuted 69 = .ok (.getfield 37, 3) := by decide +kernel
theorem dX9_refuted_72 : decode cX9_refuted 72 = .ok (.getfield 183, 3) := by decide +kernel
theorem dX9_refuted_75 : decode cX9_refuted 75 = .ok (.ireturn, 1) := by decide +kernel
theorem dX9_refuted_76 : decode cX9_refuted 76 = .ok (.iconst (-1), 1) := by decide +kernel
theorem dX9_refuted_77 : decode cX9_refuted 77 = .ok (.ireturn, 1) := by decide +kernel
theorem dX9_ring_0 : decode cX9_ring 0 = .ok (.iload_n 1, 1) := by decide +kernel
theorem dX9_ring_1 : decode cX9_ring 1 = .ok (.iconst 1, 1) := by decide +kernel
theorem dX9_ring_2 : decode cX9_ring 2 = .ok (.if_icmp .lt 28, 3) := by decide +kernel
theorem dX9_ring_5 : decode cX9_ring 5 = .ok (.iload_n 1, 1) := by decide +kernel
theorem dX9_ring_6 : decode cX9_ring 6 = .ok (.aload_n 0, 1) := by decide +kernel
theorem dX9_ring_7 : decode cX9_ring 7 = .ok (.getfield 37, 3) := by decide +kernel
theorem dX9_ring_10 : decode cX9_ring 10 = .ok (.getfield 176, 3) := by decide +kernel
theorem dX9_ring_13 : decode cX9_ring 13 = .ok (.if_icmp .ge 17, 3) := by decide +kernel
theorem dX9_ring_16 : decode cX9_ring 16 = .ok (.aload_n 0, 1) := by decide +kernel
theorem dX9_ring_17 : decode cX9_ring 17 = .ok (.getfield 37, 3) := by decide +kernel
theorem dX9_ring_20 : decode cX9_ring 20 = .ok (.getfield 186, 3) := by decide +kernel
theorem dX9_ring_23 : decode cX9_ring 23 = .ok (.iload_n 1, 1) := by decide +kernel
theorem dX9_ring_24 : decode cX9_ring 24 = .ok (.iconst 1, 1) := by decide +kernel
theorem dX9_ring_25 : decode cX9_ring 25 = .ok (.isub, 1) := by decide +kernel
theorem dX9_ring_26 : decode cX9_ring 26 = .ok (.iaload, 1) := by decide +kernel
theorem dX9_ring_27 : decode cX9_ring 27 = .ok (.goto 4, 3) := by decide +kernel
theorem dX9_ring_30 : decode cX9_ring 30 = .ok (.iconst (-1), 1) := by decide +kernel
theorem dX9_ring_31 : decode cX9_ring 31 = .ok (.ireturn, 1) := by decide +kernel
theorem dX9_forget_0 : decode cX9_forget 0 = .ok (.aload_n 0, 1) := by decide +kernel
theorem dX9_forget_1 : decode cX9_forget 1 = .ok (.getfield 12, 3) := by decide +kernel
theorem dX9_forget_4 : decode cX9_forget 4 = .ok (.iload_n 1, 1) := by decide +kernel
theorem dX9_forget_5 : decode cX9_forget 5 = .ok (.invokevirtual 133, 3) := by decide +kernel
theorem dX9_forget_8 : decode cX9_forget 8 = .ok (.ifCond .ne 5, 3) := by decide +kernel
theorem dX9_forget_11 : decode cX9_forget 11 = .ok (.iconst (-1), 1) := by decide +kernel
theorem dX9_forget_12 : decode cX9_forget 12 = .ok (.ireturn, 1) := by decide +kernel
theorem dX9_forget_13 : decode cX9_forget 13 = .ok (.aload_n 0, 1) := by decide +kernel
theorem dX9_forget_14 : decode cX9_forget 14 = .ok (.getfield 22, 3) := by decide +kernel
theorem dX9_forget_17 : decode cX9_forget 17 = .ok (.aload_n 0, 1) := by decide +kernel
theorem dX9_forget_18 : decode cX9_forget 18 = .ok (.getfield 12, 3) := by decide +kernel
theorem dX9_forget_21 : decode cX9_forget 21 = .ok (.invokevirtual 169, 3) := by decide +kernel
