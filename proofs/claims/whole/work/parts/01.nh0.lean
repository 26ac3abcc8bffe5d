theorem dX0_init_0 : decode cX0_init 0 = .ok (.aload_n 0, 1) := by decide +kernel
theorem dX0_init_1 : decode cX0_init 1 = .ok (.invokespecial 1, 3) := by decide +kernel
theorem dX0_init_4 : decode cX0_init 4 = .ok (.aload_n 0, 1) := by decide +kernel
theorem dX0_init_5 : decode cX0_init 5 = .ok (.new 7, 3) := by decide +kernel
theorem dX0_init_8 : decode cX0_init 8 = .ok (.dup, 1) := by decide +kernel
theorem dX0_init_9 : decode cX0_init 9 = .ok (.bipush 32, 2) := by decide +kernel
theorem dX0_init_11 : decode cX0_init 11 = .ok (.invokespecial 9, 3) := by decide +kernel
theorem dX0_init_14 : decode cX0_init 14 = .ok (.putfield 12, 3) := by decide +kernel
theorem dX0_init_17 : decode cX0_init 17 = .ok (.aload_n 0, 1) := by decide +kernel
theorem dX0_init_18 : decode cX0_init 18 = .ok (.new 7, 3) := by decide +kernel
theorem dX0_init_21 : decode cX0_init 21 = .ok (.dup, 1) := by decide +kernel
theorem dX0_init_22 : decode cX0_init 22 = .ok (.bipush 32, 2) := by decide +kernel
theorem dX0_init_24 : decode cX0_init 24 = .ok (.invokespecial 9, 3) := by decide +kernel
theorem dX0_init_27 : decode cX0_init 27 = .ok (.putfield 18, 3) := by decide +kernel
theorem dX0_init_30 : decode cX0_init 30 = .ok (.aload_n 0, 1) := by decide +kernel
theorem dX0_init_31 : decode cX0_init 31 = .ok (.new 7, 3) := by decide +kernel
theorem dX0_init_34 : decode cX0_init 34 = .ok (.dup, 1) := by decide +kernel
theorem dX0_init_35 : decode cX0_init 35 = .ok (.bipush 32, 2) := by decide +kernel
theorem dX0_init_37 : decode cX0_init 37 = .ok (.invokespecial 9, 3) := by decide +kernel
theorem dX0_init_40 : decode cX0_init 40 = .ok (.putfield 21, 3) := by decide +kernel
theorem dX0_init_43 : decode cX0_init 43 = .ok (.aload_n 0, 1) := by decide +kernel
theorem dX0_init_44 : decode cX0_init 44 = .ok (.new 7, 3) := by decide +kernel
theorem dX0_init_47 : decode cX0_init 47 = .ok (.dup, 1) := by decide +kernel
theorem dX0_init_48 : decode cX0_init 48 = .ok (.bipush 32, 2) := by decide +kernel
theorem dX0_init_50 : decode cX0_init 50 = .ok (.invokespecial 9, 3) := by decide +kernel
theorem dX0_init_53 : decode cX0_init 53 = .ok (.putfield 24, 3) := by decide +kernel
theorem dX0_init_56 : decode cX0_init 56 = .ok (.return_, 1) := by decide +kernel
theorem dX0_count_0 : decode cX0_count 0 = .ok (.aload_n 0, 1) := by decide +kernel
theorem dX0_count_1 : decode cX0_count 1 = .ok (.getfield 21, 3) := by decide +kernel
theorem dX0_count_4 : decode cX0_count 4 = .ok (.getfield 27, 3) := by decide +kernel
theorem dX0_count_7 : decode cX0_count 7 = .ok (.ireturn, 1) := by decide +kernel
theorem dX0_add_0 : decode cX0_add 0 = .ok (.aload_n 0, 1) := by decide +kernel
theorem dX0_add_1 : decode cX0_add 1 = .ok (.getfield 12, 3) := by decide +kernel
theorem dX0_add_4 : decode cX0_add 4 = .ok (.iload_n 1, 1) := by decide +kernel
theorem dX0_add_5 : decode cX0_add 5 = .ok (.invokevirtual 31, 3) := by decide +kernel
theorem dX0_add_8 : decode cX0_add 8 = .ok (.aload_n 0, 1) := by decide +kernel
theorem dX0_add_9 : decode cX0_add 9 = .ok (.getfield 18, 3) := by decide +kernel
theorem dX0_add_12 : decode cX0_add 12 = .ok (.iload_n 2, 1) := by decide +kernel
theorem dX0_add_13 : decode cX0_add 13 = .ok (.ifCond .eq 7, 3) := by decide +kernel
theorem dX0_add_16 : decode cX0_add 16 = .ok (.iconst 1, 1) := by decide +kernel
theorem dX0_add_17 : decode cX0_add 17 = .ok (.goto 4, 3) := by decide +kernel
theorem dX0_add_20 : decode cX0_add 20 = .ok (.iconst 0, 1) := by decide +kernel
theorem dX0_add_21 : decode cX0_add 21 = .ok (.invokevirtual 31, 3) := by decide +kernel
theorem dX0_add_24 : decode cX0_add 24 = .ok (.aload_n 0, 1) := by decide +kernel
theorem dX0_add_25 : decode cX0_add 25 = .ok (.getfield 21, 3) := by decide +kernel
theorem dX0_add_28 : decode cX0_add 28 = .ok (.iload_n 3, 1) := by decide +kernel
theorem dX0_add_29 : decode cX0_add 29 = .ok (.invokevirtual 31, 3) := by decide +kernel
theorem dX0_add_32 : decode cX0_add 32 = .ok (.aload_n 0, 1) := by decide +kernel
theorem dX0_add_33 : decode cX0_add 33 = .ok (.getfield 24, 3) := by decide +kernel
theorem dX0_add_36 : decode cX0_add 36 = .ok (.iload 4, 2) := by decide +kernel
theorem dX0_add_38 : decode cX0_add 38 = .ok (.invokevirtual 31, 3) := by decide +kernel
theorem dX0_add_41 : decode cX0_add 41 = .ok (.return_, 1) := by decide +kernel
theorem dX1_init_0 : decode cX1_init 0 = .ok (.aload_n 0, 1) := by decide +kernel
theorem dX1_init_1 : decode cX1_init 1 = .ok (.invokespecial 3, 3) := by decide +kernel
theorem dX1_init_4 : decode cX1_init 4 = .ok (.aload_n 0, 1) := by decide +kernel
theorem dX1_init_5 : decode cX1_init 5 = .ok (.aload_n 1, 1) := by decide +kernel
theorem dX1_init_6 : decode cX1_init 6 = .ok (.putfield 9, 3) := by decide +kernel
theorem dX1_init_9 : decode cX1_init 9 = .ok (.aload_n 1, 1) := by decide +kernel
theorem dX1_init_10 : decode cX1_init 10 = .ok (.getfield 15, 3) := by decide +kernel
theorem dX1_init_13 : decode cX1_init 13 = .ok (.ifCond .eq 7, 3) := by decide +kernel
theorem dX1_init_16 : decode cX1_init 16 = .ok (.iconst 1, 1) := by decide +kernel
theorem dX1_init_17 : decode cX1_init 17 = .ok (.goto 7, 3) := by decide +kernel
theorem dX1_init_20 : decode cX1_init 20 = .ok (.aload_n 1, 1) := by decide +kernel
theorem dX1_init_21 : decode cX1_init 21 = .ok (.getfield 21, 3) := by decide +kernel
theorem dX1_init_24 : decode cX1_init 24 = .ok (.istore_n 2, 1) := by decide +kernel
theorem dX1_init_25 : decode cX1_init 25 = .ok (.aload_n 0, 1) := by decide +kernel
theorem dX1_init_26 : decode cX1_init 26 = .ok (.new 25, 3) := by decide +kernel
theorem dX1_init_29 : decode cX1_init 29 = .ok (.dup, 1) := by decide +kernel
theorem dX1_init_30 : decode cX1_init 30 = .ok (.iload_n 2, 1) := by decide +kernel
theorem dX1_init_31 : decode cX1_init 31 = .ok (.invokespecial 27, 3) := by decide +kernel
theorem dX1_init_34 : decode cX1_init 34 = .ok (.putfield 30, 3) := by decide +kernel
theorem dX1_init_37 : decode cX1_init 37 = .ok (.aload_n 0, 1) := by decide +kernel
theorem dX1_init_38 : decode cX1_init 38 = .ok (.new 25, 3) := by decide +kernel
theorem dX1_init_41 : decode cX1_init 41 = .ok (.dup, 1) := by decide +kernel
theorem dX1_init_42 : decode cX1_init 42 = .ok (.iload_n 2, 1) := by decide +kernel
theorem dX1_init_43 : decode cX1_init 43 = .ok (.invokespecial 27, 3) := by decide +kernel
theorem dX1_init_46 : decode cX1_init 46 = .ok (.putfield 34, 3) := by decide +kernel
theorem dX1_init_49 : decode cX1_init 49 = .ok (.aload_n 0, 1) := by decide +kernel
theorem dX1_init_50 : decode cX1_init 50 = .ok (.aload_n 1, 1) := by decide +kernel
theorem dX1_init_51 : decode cX1_init 51 = .ok (.getfield 21, 3) := by decide +kernel
theorem dX1_init_54 : decode cX1_init 54 = .ok (.newarray .int, 2) := by decide +kernel
theorem dX1_init_56 : decode cX1_init 56 = .ok (.putfield 37, 3) := by decide +kernel
theorem dX1_init_59 : decode cX1_init 59 = .ok (.return_, 1) := by decide +kernel
theorem dX1_reset_0 : decode cX1_reset 0 = .ok (.aload_n 0, 1) := by decide +kernel
theorem dX1_reset_1 : decode cX1_reset 1 = .ok (.getfield 30, 3) := by decide +kernel
theorem dX1_reset_4 : decode cX1_reset 4 = .ok (.invokevirtual 41, 3) := by decide +kernel
theorem dX1_reset_7 : decode cX1_reset 7 = .ok (.aload_n 0, 1) := by decide +kernel
theorem dX1_reset_8 : decode cX1_reset 8 = .ok (.getfield 34, 3) := by decide +kernel
theorem dX1_reset_11 : decode cX1_reset 11 = .ok (.invokevirtual 41, 3) := by decide +kernel
theorem dX1_reset_14 : decode cX1_reset 14 = .ok (.aload_n 0, 1) := by decide +kernel
theorem dX1_reset_15 : decode cX1_reset 15 = .ok (.iconst 0, 1) := by decide +kernel
theorem dX1_reset_16 : decode cX1_reset 16 = .ok (.putfield 44, 3) := by decide +kernel
theorem dX1_reset_19 : decode cX1_reset 19 = .ok (.aload_n 0, 1) := by decide +kernel
theorem dX1_reset_20 : decode cX1_reset 20 = .ok (.iconst 0, 1) := by decide +kernel
theorem dX1_reset_21 : decode cX1_reset 21 = .ok (.putfield 47, 3) := by decide +kernel
theorem dX1_reset_24 : decode cX1_reset 24 = .ok (.aload_n 0, 1) := by decide +kernel
theorem dX1_reset_25 : decode cX1_reset 25 = .ok (.getfield 37, 3) := by decide +kernel
theorem dX1_reset_28 : decode cX1_reset 28 = .ok (.iconst 0, 1) := by decide +kernel
theorem dX1_reset_29 : decode cX1_reset 29 = .ok (.invokestatic 50, 3) := by decide +kernel
theorem dX1_reset_32 : decode cX1_reset 32 = .ok (.aload_n 0, 1) := by decide +kernel
theorem dX1_reset_33 : decode cX1_reset 33 = .ok (.iconst 0, 1) := by decide +kernel
theorem dX1_reset_34 : decode cX1_reset 34 = .ok (.putfield 56, 3) := by decide +kernel
theorem dX1_reset_37 : decode cX1_reset 37 = .ok (.aload_n 0, 1) := by decide +kernel
theorem dX1_reset_38 : decode cX1_reset 38 = .ok (.iconst 0, 1) := by decide +kernel
theorem dX1_reset_39 : decode cX1_reset 39 = .ok (.putfield 59, 3) := by decide +kernel
theorem dX1_reset_42 : decode cX1_reset 42 = .ok (.return_, 1) := by decide +kernel
theorem dX1_handOver_0 : decode cX1_handOver 0 = .ok (.aload_n 0, 1) := by decide +kernel
theorem dX1_handOver_1 : decode cX1_handOver 1 = .ok (.dup, 1) := by decide +kernel
theorem dX1_handOver_2 : decode cX1_handOver 2 = .ok (.getfield 47, 3) := by decide +kernel
theorem dX1_handOver_5 : decode cX1_handOver 5 = .ok (.aload_n 0, 1) := by decide +kernel
theorem dX1_handOver_6 : decode cX1_handOver 6 = .ok (.getfield 30, 3) := by decide +kernel
theorem dX1_handOver_9 : decode cX1_handOver 9 = .ok (.invokevirtual 62, 3) := by decide +kernel
theorem dX1_handOver_12 : decode cX1_handOver 12 = .ok (.iadd, 1) := by decide +kernel
theorem dX1_handOver_13 : decode cX1_handOver 13 = .ok (.putfield 47, 3) := by decide +kernel
theorem dX1_handOver_16 : decode cX1_handOver 16 = .ok (.aload_n 0, 1) := by decide +kernel
theorem dX1_handOver_17 : decode cX1_handOver 17 = .ok (.getfield 30, 3) := by decide +kernel
theorem dX1_handOver_20 : decode cX1_handOver 20 = .ok (.astore_n 1, 1) := by decide +kernel
theorem dX1_handOver_21 : decode cX1_handOver 21 = .ok (.aload_n 1, 1) := by decide +kernel
theorem dX1_handOver_22 : decode cX1_handOver 22 = .ok (.invokevirtual 41, 3) := by decide +kernel
theorem dX1_handOver_25 : decode cX1_handOver 25 = .ok (.aload_n 0, 1) := by decide +kernel
theorem dX1_handOver_26 : decode cX1_handOver 26 = .ok (.aload_n 0, 1) := by decide +kernel
theorem dX1_handOver_27 : decode cX1_handOver 27 = .ok (.getfield 34, 3) := by decide +kernel
theorem dX1_handOver_30 : decode cX1_handOver 30 = .ok (.putfield 30, 3) := by decide +kernel
theorem dX1_handOver_33 : decode cX1_handOver 33 = .ok (.aload_n 0, 1) := by decide +kernel
theorem dX1_handOver_34 : decode cX1_handOver 34 = .ok (.aload_n 1, 1) := by decide +kernel
theorem dX1_handOver_35 : decode cX1_handOver 35 = .ok (.putfield 34, 3) := by decide +kernel
theorem dX1_handOver_38 : decode cX1_handOver 38 = .ok (.return_, 1) := by decide +kernel
theorem dX1_age_0 : decode cX1_age 0 = .ok (.aload_n 0, 1) := by decide +kernel
theorem dX1_age_1 : decode cX1_age 1 = .ok (.getfield 56, 3) := by decide +kernel
theorem dX1_age_4 : decode cX1_age 4 = .ok (.ifCond .ne 7, 3) := by decide +kernel
theorem dX1_age_7 : decode cX1_age 7 = .ok (.iconst (-1), 1) := by decide +kernel
theorem dX1_age_8 : decode cX1_age 8 = .ok (.goto 9, 3) := by decide +kernel
theorem dX1_age_11 : decode cX1_age 11 = .ok (.iload_n 1, 1) := by decide +kernel
theorem dX1_age_12 : decode cX1_age 12 = .ok (.aload_n 0, 1) := by decide +kernel
theorem dX1_age_13 : decode cX1_age 13 = .ok (.getfield 59, 3) := by decide +kernel
theorem dX1_age_16 : decode cX1_age 16 = .ok (.isub, 1) := by decide +kernel
theorem dX1_age_17 : decode cX1_age 17 = .ok (.ireturn, 1) := by decide +kernel
theorem dX1_looksSame_0 : decode cX1_looksSame 0 = .ok (.aload_n 0, 1) := by decide +kernel
theorem dX1_looksSame_1 : decode cX1_looksSame 1 = .ok (.getfield 9, 3) := by decide +kernel
theorem dX1_looksSame_4 : decode cX1_looksSame 4 = .ok (.getfield 15, 3) := by decide +kernel
theorem dX1_looksSame_7 : decode cX1_looksSame 7 = .ok (.ifCond .ne 37, 3) := by decide +kernel
theorem dX1_looksSame_10 : decode cX1_looksSame 10 = .ok (.aload_n 0, 1) := by decide +kernel
theorem dX1_looksSame_11 : decode cX1_looksSame 11 = .ok (.getfield 30, 3) := by decide +kernel
theorem dX1_looksSame_14 : decode cX1_looksSame 14 = .ok (.aload_n 1, 1) := by decide +kernel
theorem dX1_looksSame_15 : decode cX1_looksSame 15 = .ok (.getfield 30, 3) := by decide +kernel
theorem dX1_looksSame_18 : decode cX1_looksSame 18 = .ok (.invokevirtual 66, 3) := by decide +kernel
theorem dX1_looksSame_21 : decode cX1_looksSame 21 = .ok (.ifCond .eq 21, 3) := by decide +kernel
theorem dX1_looksSame_24 : decode cX1_looksSame 24 = .ok (.aload_n 0, 1) := by decide +kernel
theorem dX1_looksSame_25 : decode cX1_looksSame 25 = .ok (.getfield 34, 3) := by decide +kernel
theorem dX1_looksSame_28 : decode cX1_looksSame 28 = .ok (.aload_n 1, 1) := by decide +kernel
theorem dX1_looksSame_29 : decode cX1_looksSame 29 = .ok (.getfield 34, 3) := by decide +kernel
theorem dX1_looksSame_32 : decode cX1_looksSame 32 = .ok (.invokevirtual 66, 3) := by decide +kernel
theorem dX1_looksSame_35 : decode cX1_looksSame 35 = .ok (.ifCond .eq 7, 3) := by decide +kernel
theorem dX1_looksSame_38 : decode cX1_looksSame 38 = .ok (.iconst 1, 1) := by decide +kernel
theorem dX1_looksSame_39 : decode cX1_looksSame 39 = .ok (.goto 4, 3) := by decide +kernel
theorem dX1_looksSame_42 : decode cX1_looksSame 42 = .ok (.iconst 0, 1) := by decide +kernel
theorem dX1_looksSame_43 : decode cX1_looksSame 43 = .ok (.ireturn, 1) := by decide +kernel
theorem dX1_looksSame_44 : decode cX1_looksSame 44 = .ok (.iconst 0, 1) := by decide +kernel
theorem dX1_looksSame_45 : decode cX1_looksSame 45 = .ok (.istore_n 3, 1) := by decide +kernel
theorem dX1_looksSame_46 : decode cX1_looksSame 46 = .ok (.iload_n 3, 1) := by decide +kernel
theorem dX1_looksSame_47 : decode cX1_looksSame 47 = .ok (.aload_n 0, 1) := by decide +kernel
theorem dX1_looksSame_48 : decode cX1_looksSame 48 = .ok (.getfield 37, 3) := by decide +kernel
theorem dX1_looksSame_51 : decode cX1_looksSame 51 = .ok (.arraylength, 1) := by decide +kernel
theorem dX1_looksSame_52 : decode cX1_looksSame 52 = .ok (.if_icmp .ge 26, 3) := by decide +kernel
theorem dX1_looksSame_55 : decode cX1_looksSame 55 = .ok (.aload_n 0, 1) := by decide +kernel
theorem dX1_looksSame_56 : decode cX1_looksSame 56 = .ok (.getfield 37, 3) := by decide +kernel
theorem dX1_looksSame_59 : decode cX1_looksSame 59 = .ok (.iload_n 3, 1) := by decide +kernel
theorem dX1_looksSame_60 : decode cX1_looksSame 60 = .ok (.iaload, 1) := by decide +kernel
theorem dX1_looksSame_61 : decode cX1_looksSame 61 = .ok (.aload_n 1, 1) := by decide +kernel
theorem dX1_looksSame_62 : decode cX1_looksSame 62 = .ok (.getfield 37, 3) := by decide +kernel
theorem dX1_looksSame_65 : decode cX1_looksSame 65 = .ok (.iload_n 3, 1) := by decide +kernel
theorem dX1_looksSame_66 : decode cX1_looksSame 66 = .ok (.iaload, 1) := by decide +kernel
theorem dX1_looksSame_67 : decode cX1_looksSame 67 = .ok (.if_icmp .eq 5, 3) := by decide +kernel
theorem dX1_looksSame_70 : decode cX1_looksSame 70 = .ok (.iconst 0, 1) := by decide +kernel
theorem dX1_looksSame_71 : decode cX1_looksSame 71 = .ok (.ireturn, 1) := by decide +kernel
theorem dX1_looksSame_72 : decode cX1_looksSame 72 = .ok (.iinc 3 1, 3) := by decide +kernel
theorem dX1_looksSame_75 : decode cX1_looksSame 75 = .ok (.goto (-29), 3) := by decide +kernel
theorem dX1_looksSame_78 : decode cX1_looksSame 78 = .ok (.aload_n 0, 1) := by decide +kernel
theorem dX1_looksSame_79 : decode cX1_looksSame 79 = .ok (.iload_n 2, 1) := by decide +kernel
theorem dX1_looksSame_80 : decode cX1_looksSame 80 = .ok (.invokevirtual 70, 3) := by decide +kernel
theorem dX1_looksSame_83 : decode cX1_looksSame 83 = .ok (.aload_n 1, 1) := by decide +kernel
theorem dX1_looksSame_84 : decode cX1_looksSame 84 = .ok (.iload_n 2, 1) := by decide +kernel
theorem dX1_looksSame_85 : decode cX1_looksSame 85 = .ok (.invokevirtual 70, 3) := by decide +kernel
theorem dX1_looksSame_88 : decode cX1_looksSame 88 = .ok (.if_icmp .ne 7, 3) := by decide +kernel
theorem dX1_looksSame_91 : decode cX1_looksSame 91 = .ok (.iconst 1, 1) := by decide +kernel
theorem dX1_looksSame_92 : decode cX1_looksSame 92 = .ok (.goto 4, 3) := by decide +kernel
theorem dX1_looksSame_95 : decode cX1_looksSame 95 = .ok (.iconst 0, 1) := by decide +kernel
theorem dX1_looksSame_96 : decode cX1_looksSame 96 = .ok (.ireturn, 1) := by decide +kernel
theorem dX2_init_0 : decode cX2_init 0 = .ok (.aload_n 0, 1) := by decide +kernel
theorem dX2_init_1 : decode cX2_init 1 = .ok (.invokespecial 1, 3) := by decide +kernel
theorem dX2_init_4 : decode cX2_init 4 = .ok (.aload_n 0, 1) := by decide +kernel
theorem dX2_init_5 : decode cX2_init 5 = .ok (.aload_n 1, 1) := by decide +kernel
theorem dX2_init_6 : decode cX2_init 6 = .ok (.putfield 7, 3) := by decide +kernel
theorem dX2_init_9 : decode cX2_init 9 = .ok (.return_, 1) := by decide +kernel
theorem dX2_start_0 : decode cX2_start 0 = .ok (.aload_n 0, 1) := by decide +kernel
theorem dX2_start_1 : decode cX2_start 1 = .ok (.iconst 0, 1) := by decide +kernel
theorem dX2_start_2 : decode cX2_start 2 = .ok (.putfield 13, 3) := by decide +kernel
theorem dX2_start_5 : decode cX2_start 5 = .ok (.aload_n 0, 1) := by decide +kernel
theorem dX2_start_6 : decode cX2_start 6 = .ok (.iconst 0, 1) := by decide +kernel
theorem dX2_start_7 : decode cX2_start 7 = .ok (.putfield 17, 3) := by decide +kernel
theorem dX2_start_10 : decode cX2_start 10 = .ok (.aload_n 0, 1) := by decide +kernel
theorem dX2_start_11 : decode cX2_start 11 = .ok (.iconst 0, 1) := by decide +kernel
theorem dX2_start_12 : decode cX2_start 12 = .ok (.putfield 20, 3) := by decide +kernel
theorem dX2_start_15 : decode cX2_start 15 = .ok (.aload_n 0, 1) := by decide +kernel
theorem dX2_start_16 : decode cX2_start 16 = .ok (.aload_n 0, 1) := by decide +kernel
theorem dX2_start_17 : decode cX2_start 17 = .ok (.getfield 7, 3) := by decide +kernel
theorem dX2_start_20 : decode cX2_start 20 = .ok (.getfield 23, 3) := by decide +kernel
theorem dX2_start_23 : decode cX2_start 23 = .ok (.iconst 0, 1) := by decide +kernel
theorem dX2_start_24 : decode cX2_start 24 = .ok (.aaload, 1) := by decide +kernel
theorem dX2_start_25 : decode cX2_start 25 = .ok (.iconst 0, 1) := by decide +kernel
theorem dX2_start_26 : decode cX2_start 26 = .ok (.invokevirtual 29, 3) := by decide +kernel
theorem dX2_start_29 : decode cX2_start 29 = .ok (.putfield 35, 3) := by decide +kernel
theorem dX2_start_32 : decode cX2_start 32 = .ok (.aload_n 0, 1) := by decide +kernel
theorem dX2_start_33 : decode cX2_start 33 = .ok (.iconst 0, 1) := by decide +kernel
theorem dX2_start_34 : decode cX2_start 34 = .ok (.putfield 38, 3) := by decide +kernel
theorem dX2_start_37 : decode cX2_start 37 = .ok (.return_, 1) := by decide +kernel
theorem dX2_slotDomain_0 : decode cX2_slotDomain 0 = .ok (.aload_n 0, 1) := by decide +kernel
theorem dX2_slotDomain_1 : decode cX2_slotDomain 1 = .ok (.getfield 7, 3) := by decide +kernel
theorem dX2_slotDomain_4 : decode cX2_slotDomain 4 = .ok (.getfield 41, 3) := by decide +kernel
theorem dX2_slotDomain_7 : decode cX2_slotDomain 7 = .ok (.aload_n 0, 1) := by decide +kernel
theorem dX2_slotDomain_8 : decode cX2_slotDomain 8 = .ok (.getfield 17, 3) := by decide +kernel
theorem dX2_slotDomain_11 : decode cX2_slotDomain 11 = .ok (.aaload, 1) := by decide +kernel
theorem dX2_slotDomain_12 : decode cX2_slotDomain 12 = .ok (.aload_n 0, 1) := by decide +kernel
theorem dX2_slotDomain_13 : decode cX2_slotDomain 13 = .ok (.getfield 20, 3) := by decide +kernel
theorem dX2_slotDomain_16 : decode cX2_slotDomain 16 = .ok (.invokevirtual 29, 3) := by decide +kernel
theorem dX2_slotDomain_19 : decode cX2_slotDomain 19 = .ok (.ireturn, 1) := by decide +kernel
theorem dX2_beginsSlot_0 : decode cX2_beginsSlot 0 = .ok (.aload_n 0, 1) := by decide +kernel
theorem dX2_beginsSlot_1 : decode cX2_beginsSlot 1 = .ok (.getfield 35, 3) := by decide +kernel
theorem dX2_beginsSlot_4 : decode cX2_beginsSlot 4 = .ok (.aload_n 0, 1) := by decide +kernel
theorem dX2_beginsSlot_5 : decode cX2_beginsSlot 5 = .ok (.getfield 7, 3) := by decide +kernel
theorem dX2_beginsSlot_8 : decode cX2_beginsSlot 8 = .ok (.getfield 23, 3) := by decide +kernel
theorem dX2_beginsSlot_11 : decode cX2_beginsSlot 11 = .ok (.aload_n 0, 1) := by decide +kernel
theorem dX2_beginsSlot_12 : decode cX2_beginsSlot 12 = .ok (.getfield 17, 3) := by decide +kernel
theorem dX2_beginsSlot_15 : decode cX2_beginsSlot 15 = .ok (.aaload, 1) := by decide +kernel
theorem dX2_beginsSlot_16 : decode cX2_beginsSlot 16 = .ok (.aload_n 0, 1) := by decide +kernel
theorem dX2_beginsSlot_17 : decode cX2_beginsSlot 17 = .ok (.getfield 20, 3) := by decide +kernel
theorem dX2_beginsSlot_20 : decode cX2_beginsSlot 20 = .ok (.invokevirtual 29, 3) := by decide +kernel
theorem dX2_beginsSlot_23 : decode cX2_beginsSlot 23 = .ok (.if_icmp .ne 7, 3) := by decide +kernel
theorem dX2_beginsSlot_26 : decode cX2_beginsSlot 26 = .ok (.iconst 1, 1) := by decide +kernel
theorem dX2_beginsSlot_27 : decode cX2_beginsSlot 27 = .ok (.goto 4, 3) := by decide +kernel
theorem dX2_beginsSlot_30 : decode cX2_beginsSlot 30 = .ok (.iconst 0, 1) := by decide +kernel
theorem dX2_beginsSlot_31 : decode cX2_beginsSlot 31 = .ok (.ireturn, 1) := by decide +kernel
theorem dX2_advance_0 : decode cX2_advance 0 = .ok (.aload_n 0, 1) := by decide +kernel
theorem dX2_advance_1 : decode cX2_advance 1 = .ok (.dup, 1) := by decide +kernel
theorem dX2_advance_2 : decode cX2_advance 2 = .ok (.getfield 13, 3) := by decide +kernel
theorem dX2_advance_5 : decode cX2_advance 5 = .ok (.iconst 1, 1) := by decide +kernel
theorem dX2_advance_6 : decode cX2_advance 6 = .ok (.iadd, 1) := by decide +kernel
theorem dX2_advance_7 : decode cX2_advance 7 = .ok (.putfield 13, 3) := by decide +kernel
theorem dX2_advance_10 : decode cX2_advance 10 = .ok (.aload_n 0, 1) := by decide +kernel
theorem dX2_advance_11 : decode cX2_advance 11 = .ok (.dup, 1) := by decide +kernel
theorem dX2_advance_12 : decode cX2_advance 12 = .ok (.getfield 35, 3) := by decide +kernel
theorem dX2_advance_15 : decode cX2_advance 15 = .ok (.iconst 1, 1) := by decide +kernel
theorem dX2_advance_16 : decode cX2_advance 16 = .ok (.isub, 1) := by decide +kernel
theorem dX2_advance_17 : decode cX2_advance 17 = .ok (.putfield 35, 3) := by decide +kernel
theorem dX2_advance_20 : decode cX2_advance 20 = .ok (.aload_n 0, 1) := by decide +kernel
theorem dX2_advance_21 : decode cX2_advance 21 = .ok (.getfield 35, 3) := by decide +kernel
theorem dX2_advance_24 : decode cX2_advance 24 = .ok (.ifCond .le 4, 3) := by decide +kernel
theorem dX2_advance_27 : decode cX2_advance 27 = .ok (.return_, 1) := by decide +kernel
theorem dX2_advance_28 : decode cX2_advance 28 = .ok (.aload_n 0, 1) := by decide +kernel
theorem dX2_advance_29 : decode cX2_advance 29 = .ok (.dup, 1) := by decide +kernel
theorem dX2_advance_30 : decode cX2_advance 30 = .ok (.getfield 20, 3) := by decide +kernel
theorem dX2_advance_33 : decode cX2_advance 33 = .ok (.iconst 1, 1) := by decide +kernel
theorem dX2_advance_34 : decode cX2_advance 34 = .ok (.iadd, 1) := by decide +kernel
theorem dX2_advance_35 : decode cX2_advance 35 = .ok (.putfield 20, 3) := by decide +kernel
theorem dX2_advance_38 : decode cX2_advance 38 = .ok (.aload_n 0, 1) := by decide +kernel
theorem dX2_advance_39 : decode cX2_advance 39 = .ok (.getfield 20, 3) := by decide +kernel
theorem dX2_advance_42 : decode cX2_advance 42 = .ok (.aload_n 0, 1) := by decide +kernel
theorem dX2_advance_43 : decode cX2_advance 43 = .ok (.getfield 7, 3) := by decide +kernel
theorem dX2_advance_46 : decode cX2_advance 46 = .ok (.getfield 23, 3) := by decide +kernel
theorem dX2_advance_49 : decode cX2_advance 49 = .ok (.aload_n 0, 1) := by decide +kernel
theorem dX2_advance_50 : decode cX2_advance 50 = .ok (.getfield 17, 3) := by decide +kernel
theorem dX2_advance_53 : decode cX2_advance 53 = .ok (.aaload, 1) := by decide +kernel
theorem dX2_advance_54 : decode cX2_advance 54 = .ok (.getfield 44, 3) := by decide +kernel
theorem dX2_advance_57 : decode cX2_advance 57 = .ok (.if_icmp .lt 38, 3) := by decide +kernel
theorem dX2_advance_60 : decode cX2_advance 60 = .ok (.aload_n 0, 1) := by decide +kernel
theorem dX2_advance_61 : decode cX2_advance 61 = .ok (.aload_n 0, 1) := by decide +kernel
theorem dX2_advance_62 : decode cX2_advance 62 = .ok (.getfield 7, 3) := by decide +kernel
theorem dX2_advance_65 : decode cX2_advance 65 = .ok (.getfield 23, 3) := by decide +kernel
theorem dX2_advance_68 : decode cX2_advance 68 = .ok (.aload_n 0, 1) := by decide +kernel
theorem dX2_advance_69 : decode cX2_advance 69 = .ok (.getfield 38, 3) := by decide +kernel
theorem dX2_advance_72 : decode cX2_advance 72 = .ok (.aaload, 1) := by decide +kernel
theorem dX2_advance_73 : decode cX2_advance 73 = .ok (.getfield 44, 3) := by decide +kernel
theorem dX2_advance_76 : decode cX2_advance 76 = .ok (.ifCond .le 10, 3) := by decide +kernel
theorem dX2_advance_79 : decode cX2_advance 79 = .ok (.aload_n 0, 1) := by decide +kernel
theorem dX2_advance_80 : decode cX2_advance 80 = .ok (.getfield 38, 3) := by decide +kernel
theorem dX2_advance_83 : decode cX2_advance 83 = .ok (.goto 4, 3) := by decide +kernel
theorem dX2_advance_86 : decode cX2_advance 86 = .ok (.iconst 0, 1) := by decide +kernel
theorem dX2_advance_87 : decode cX2_advance 87 = .ok (.putfield 17, 3) := by decide +kernel
theorem dX2_advance_90 : decode cX2_advance 90 = .ok (.aload_n 0, 1) := by decide +kernel
theorem dX2_advance_91 : decode cX2_advance 91 = .ok (.iconst 0, 1) := by decide +kernel
theorem dX2_advance_92 : decode cX2_advance 92 = .ok (.putfield 20, 3) := by decide +kernel
theorem dX2_advance_95 : decode cX2_advance 95 = .ok (.aload_n 0, 1) := by decide +kernel
theorem dX2_advance_96 : decode cX2_advance 96 = .ok (.aload_n 0, 1) := by decide +kernel
theorem dX2_advance_97 : decode cX2_advance 97 = .ok (.getfield 7, 3) := by decide +kernel
theorem dX2_advance_100 : decode cX2_advance 100 = .ok (.getfield 23, 3) := by decide +kernel
theorem dX2_advance_103 : decode cX2_advance 103 = .ok (.aload_n 0, 1) := by decide +kernel
theorem dX2_advance_104 : decode cX2_advance 104 = .ok (.getfield 17, 3) := by decide +kernel
theorem dX2_advance_107 : decode cX2_advance 107 = .ok (.aaload, 1) := by decide +kernel
theorem dX2_advance_108 : decode cX2_advance 108 = .ok (.aload_n 0, 1) := by decide +kernel
theorem dX2_advance_109 : decode cX2_advance 109 = .ok (.getfield 20, 3) := by decide +kernel
theorem dX2_advance_112 : decode cX2_advance 112 = .ok (.invokevirtual 29, 3) := by decide +kernel
theorem dX2_advance_115 : decode cX2_advance 115 = .ok (.putfield 35, 3) := by decide +kernel
theorem dX2_advance_118 : decode cX2_advance 118 = .ok (.return_, 1) := by decide +kernel
theorem dX3_init_0 : decode cX3_init 0 = .ok (.aload_n 0, 1) := by decide +kernel
theorem dX3_init_1 : decode cX3_init 1 = .ok (.invokespecial 3, 3) := by decide +kernel
theorem dX3_init_4 : decode cX3_init 4 = .ok (.aload_n 0, 1) := by decide +kernel
theorem dX3_init_5 : decode cX3_init 5 = .ok (.bipush 8, 2) := by decide +kernel
theorem dX3_init_7 : decode cX3_init 7 = .ok (.newarray .int, 2) := by decide +kernel
theorem dX3_init_9 : decode cX3_init 9 = .ok (.putfield 9, 3) := by decide +kernel
theorem dX3_init_12 : decode cX3_init 12 = .ok (.aload_n 0, 1) := by decide +kernel
theorem dX3_init_13 : decode cX3_init 13 = .ok (.bipush 32, 2) := by decide +kernel
theorem dX3_init_15 : decode cX3_init 15 = .ok (.newarray .int, 2) := by decide +kernel
theorem dX3_init_17 : decode cX3_init 17 = .ok (.putfield 15, 3) := by decide +kernel
theorem dX3_init_20 : decode cX3_init 20 = .ok (.aload_n 0, 1) := by decide +kernel
theorem dX3_init_21 : decode cX3_init 21 = .ok (.new 18, 3) := by decide +kernel
theorem dX3_init_24 : decode cX3_init 24 = .ok (.dup, 1) := by decide +kernel
theorem dX3_init_25 : decode cX3_init 25 = .ok (.bipush 8, 2) := by decide +kernel
theorem dX3_init_27 : decode cX3_init 27 = .ok (.invokespecial 20, 3) := by decide +kernel
theorem dX3_init_30 : decode cX3_init 30 = .ok (.putfield 23, 3) := by decide +kernel
theorem dX3_init_33 : decode cX3_init 33 = .ok (.aload_n 0, 1) := by decide +kernel
theorem dX3_init_34 : decode cX3_init 34 = .ok (.new 18, 3) := by decide +kernel
theorem dX3_init_37 : decode cX3_init 37 = .ok (.dup, 1) := by decide +kernel
theorem dX3_init_38 : decode cX3_init 38 = .ok (.bipush 8, 2) := by decide +kernel
theorem dX3_init_40 : decode cX3_init 40 = .ok (.invokespecial 20, 3) := by decide +kernel
theorem dX3_init_43 : decode cX3_init 43 = .ok (.putfield 27, 3) := by decide +kernel
theorem dX3_init_46 : decode cX3_init 46 = .ok (.return_, 1) := by decide +kernel
theorem dX3_reset_0 : decode cX3_reset 0 = .ok (.aload_n 0, 1) := by decide +kernel
theorem dX3_reset_1 : decode cX3_reset 1 = .ok (.invokevirtual 30, 3) := by decide +kernel
theorem dX3_reset_4 : decode cX3_reset 4 = .ok (.aload_n 0, 1) := by decide +kernel
theorem dX3_reset_5 : decode cX3_reset 5 = .ok (.getfield 23, 3) := by decide +kernel
theorem dX3_reset_8 : decode cX3_reset 8 = .ok (.invokevirtual 33, 3) := by decide +kernel
theorem dX3_reset_11 : decode cX3_reset 11 = .ok (.aload_n 0, 1) := by decide +kernel
theorem dX3_reset_12 : decode cX3_reset 12 = .ok (.getfield 27, 3) := by decide +kernel
theorem dX3_reset_15 : decode cX3_reset 15 = .ok (.invokevirtual 33, 3) := by decide +kernel
theorem dX3_reset_18 : decode cX3_reset 18 = .ok (.aload_n 0, 1) := by decide +kernel
theorem dX3_reset_19 : decode cX3_reset 19 = .ok (.iconst 0, 1) := by decide +kernel
theorem dX3_reset_20 : decode cX3_reset 20 = .ok (.putfield 36, 3) := by decide +kernel
theorem dX3_reset_23 : decode cX3_reset 23 = .ok (.aload_n 0, 1) := by decide +kernel
theorem dX3_reset_24 : decode cX3_reset 24 = .ok (.iconst 0, 1) := by decide +kernel
theorem dX3_reset_25 : decode cX3_reset 25 = .ok (.putfield 40, 3) := by decide +kernel
theorem dX3_reset_28 : decode cX3_reset 28 = .ok (.aload_n 0, 1) := by decide +kernel
theorem dX3_reset_29 : decode cX3_reset 29 = .ok (.iconst 0, 1) := by decide +kernel
theorem dX3_reset_30 : decode cX3_reset 30 = .ok (.putfield 43, 3) := by decide +kernel
theorem dX3_reset_33 : decode cX3_reset 33 = .ok (.aload_n 0, 1) := by decide +kernel
theorem dX3_reset_34 : decode cX3_reset 34 = .ok (.iconst 0, 1) := by decide +kernel
theorem dX3_reset_35 : decode cX3_reset 35 = .ok (.putfield 46, 3) := by decide +kernel
theorem dX3_reset_38 : decode cX3_reset 38 = .ok (.return_, 1) := by decide +kernel
theorem dX3_clearMemory_0 : decode cX3_clearMemory 0 = .ok (.aload_n 0, 1) := by decide +kernel
theorem dX3_clearMemory_1 : decode cX3_clearMemory 1 = .ok (.iconst 0, 1) := by decide +kernel
theorem dX3_clearMemory_2 : decode cX3_clearMemory 2 = .ok (.putfield 49, 3) := by decide +kernel
theorem dX3_clearMemory_5 : decode cX3_clearMemory 5 = .ok (.aload_n 0, 1) := by decide +kernel
theorem dX3_clearMemory_6 : decode cX3_clearMemory 6 = .ok (.getfield 9, 3) := by decide +kernel
theorem dX3_clearMemory_9 : decode cX3_clearMemory 9 = .ok (.iconst 0, 1) := by decide +kernel
theorem dX3_clearMemory_10 : decode cX3_clearMemory 10 = .ok (.invokestatic 52, 3) := by decide +kernel
theorem dX3_clearMemory_13 : decode cX3_clearMemory 13 = .ok (.aload_n 0, 1) := by decide +kernel
theorem dX3_clearMemory_14 : decode cX3_clearMemory 14 = .ok (.getfield 15, 3) := by decide +kernel
theorem dX3_clearMemory_17 : decode cX3_clearMemory 17 = .ok (.iconst 0, 1) := by decide +kernel
theorem dX3_clearMemory_18 : decode cX3_clearMemory 18 = .ok (.invokestatic 52, 3) := by decide +kernel
theorem dX3_clearMemory_21 : decode cX3_clearMemory 21 = .ok (.return_, 1) := by decide +kernel
theorem dX3_registerOrZero_0 : decode cX3_registerOrZero 0 = .ok (.iload_n 1, 1) := by decide +kernel
theorem dX3_registerOrZero_1 : decode cX3_registerOrZero 1 = .ok (.ifCond .lt 18, 3) := by decide +kernel
theorem dX3_registerOrZero_4 : decode cX3_registerOrZero 4 = .ok (.iload_n 1, 1) := by decide +kernel
theorem dX3_registerOrZero_5 : decode cX3_registerOrZero 5 = .ok (.bipush 8, 2) := by decide +kernel
theorem dX3_registerOrZero_7 : decode cX3_registerOrZero 7 = .ok (.if_icmp .ge 12, 3) := by decide +kernel
theorem dX3_registerOrZero_10 : decode cX3_registerOrZero 10 = .ok (.aload_n 0, 1) := by decide +kernel
theorem dX3_registerOrZero_11 : decode cX3_registerOrZero 11 = .ok (.getfield 9, 3) := by decide +kernel
theorem dX3_registerOrZero_14 : decode cX3_registerOrZero 14 = .ok (.iload_n 1, 1) := by decide +kernel
theorem dX3_registerOrZero_15 : decode cX3_registerOrZero 15 = .ok (.iaload, 1) := by decide +kernel
theorem dX3_registerOrZero_16 : decode cX3_registerOrZero 16 = .ok (.goto 4, 3) := by decide +kernel
theorem dX3_registerOrZero_19 : decode cX3_registerOrZero 19 = .ok (.iconst 0, 1) := by decide +kernel
theorem dX3_registerOrZero_20 : decode cX3_registerOrZero 20 = .ok (.ireturn, 1) := by decide +kernel
theorem dX3_cellOrZero_0 : decode cX3_cellOrZero 0 = .ok (.iload_n 1, 1) := by decide +kernel
theorem dX3_cellOrZero_1 : decode cX3_cellOrZero 1 = .ok (.iconst 1, 1) := by decide +kernel
theorem dX3_cellOrZero_2 : decode cX3_cellOrZero 2 = .ok (.invokestatic 58, 3) := by decide +kernel
theorem dX3_cellOrZero_5 : decode cX3_cellOrZero 5 = .ok (.ifCond .eq 12, 3) := by decide +kernel
theorem dX3_cellOrZero_8 : decode cX3_cellOrZero 8 = .ok (.aload_n 0, 1) := by decide +kernel
theorem dX3_cellOrZero_9 : decode cX3_cellOrZero 9 = .ok (.getfield 15, 3) := by decide +kernel
theorem dX3_cellOrZero_12 : decode cX3_cellOrZero 12 = .ok (.iload_n 1, 1) := by decide +kernel
theorem dX3_cellOrZero_13 : decode cX3_cellOrZero 13 = .ok (.iaload, 1) := by decide +kernel
theorem dX3_cellOrZero_14 : decode cX3_cellOrZero 14 = .ok (.goto 4, 3) := by decide +kernel
theorem dX3_cellOrZero_17 : decode cX3_cellOrZero 17 = .ok (.iconst 0, 1) := by decide +kernel
theorem dX3_cellOrZero_18 : decode cX3_cellOrZero 18 = .ok (.ireturn, 1) := by decide +kernel
theorem dX3_hasCells_0 : decode cX3_hasCells 0 = .ok (.iload_n 0, 1) := by decide +kernel
theorem dX3_hasCells_1 : decode cX3_hasCells 1 = .ok (.ifCond .lt 15, 3) := by decide +kernel
theorem dX3_hasCells_4 : decode cX3_hasCells 4 = .ok (.iload_n 0, 1) := by decide +kernel
theorem dX3_hasCells_5 : decode cX3_hasCells 5 = .ok (.bipush 32, 2) := by decide +kernel
theorem dX3_hasCells_7 : decode cX3_hasCells 7 = .ok (.iload_n 1, 1) := by decide +kernel
theorem dX3_hasCells_8 : decode cX3_hasCells 8 = .ok (.isub, 1) := by decide +kernel
theorem dX3_hasCells_9 : decode cX3_hasCells 9 = .ok (.if_icmp .gt 7, 3) := by decide +kernel
theorem dX3_hasCells_12 : decode cX3_hasCells 12 = .ok (.iconst 1, 1) := by decide +kernel
theorem dX3_hasCells_13 : decode cX3_hasCells 13 = .ok (.goto 4, 3) := by decide +kernel
theorem dX3_hasCells_16 : decode cX3_hasCells 16 = .ok (.iconst 0, 1) := by decide +kernel
theorem dX3_hasCells_17 : decode cX3_hasCells 17 = .ok (.ireturn, 1) := by decide +kernel
theorem dX3_read_0 : decode cX3_read 0 = .ok (.aload_n 0, 1) := by decide +kernel
theorem dX3_read_1 : decode cX3_read 1 = .ok (.getfield 9, 3) := by decide +kernel
theorem dX3_read_4 : decode cX3_read 4 = .ok (.iload_n 1, 1) := by decide +kernel
theorem dX3_read_5 : decode cX3_read 5 = .ok (.bipush 8, 2) := by decide +kernel
theorem dX3_read_7 : decode cX3_read 7 = .ok (.irem, 1) := by decide +kernel
theorem dX3_read_8 : decode cX3_read 8 = .ok (.iaload, 1) := by decide +kernel
theorem dX3_read_9 : decode cX3_read 9 = .ok (.ireturn, 1) := by decide +kernel
theorem dX3_write_0 : decode cX3_write 0 = .ok (.aload_n 0, 1) := by decide +kernel
theorem dX3_write_1 : decode cX3_write 1 = .ok (.getfield 9, 3) := by decide +kernel
theorem dX3_write_4 : decode cX3_write 4 = .ok (.iload_n 1, 1) := by decide +kernel
theorem dX3_write_5 : decode cX3_write 5 = .ok (.bipush 8, 2) := by decide +kernel
theorem dX3_write_7 : decode cX3_write 7 = .ok (.irem, 1) := by decide +kernel
theorem dX3_write_8 : decode cX3_write 8 = .ok (.iload_n 2, 1) := by decide +kernel
theorem dX3_write_9 : decode cX3_write 9 = .ok (.iastore, 1) := by decide +kernel
theorem dX3_write_10 : decode cX3_write 10 = .ok (.return_, 1) := by decide +kernel
theorem dX3_report_0 : decode cX3_report 0 = .ok (.aload_n 0, 1) := by decide +kernel
theorem dX3_report_1 : decode cX3_report 1 = .ok (.getfield 9, 3) := by decide +kernel
theorem dX3_report_4 : decode cX3_report 4 = .ok (.bipush 7, 2) := by decide +kernel
theorem dX3_report_6 : decode cX3_report 6 = .ok (.iload_n 1, 1) := by decide +kernel
theorem dX3_report_7 : decode cX3_report 7 = .ok (.iastore, 1) := by decide +kernel
theorem dX3_report_8 : decode cX3_report 8 = .ok (.return_, 1) := by decide +kernel
theorem dX3_performAlone_0 : decode cX3_performAlone 0 = .ok (.iload_n 1, 1) := by decide +kernel
theorem dX3_performAlone_1 : decode cX3_performAlone 1 = .ok (.invokestatic 62, 3) := by decide +kernel
theorem dX3_performAlone_4 : decode cX3_performAlone 4 = .ok (.istore_n 2, 1) := by decide +kernel
theorem dX3_performAlone_5 : decode cX3_performAlone 5 = .ok (.aload_n 0, 1) := by decide +kernel
theorem dX3_performAlone_6 : decode cX3_performAlone 6 = .ok (.iload_n 1, 1) := by decide +kernel
theorem dX3_performAlone_7 : decode cX3_performAlone 7 = .ok (.invokestatic 66, 3) := by decide +kernel
theorem dX3_performAlone_10 : decode cX3_performAlone 10 = .ok (.invokevirtual 69, 3) := by decide +kernel
theorem dX3_performAlone_13 : decode cX3_performAlone 13 = .ok (.istore_n 3, 1) := by decide +kernel
theorem dX3_performAlone_14 : decode cX3_performAlone 14 = .ok (.iload_n 1, 1) := by decide +kernel
theorem dX3_performAlone_15 : decode cX3_performAlone 15 = .ok (.invokestatic 72, 3) := by decide +kernel
theorem dX3_performAlone_18 : decode cX3_performAlone 18 = .ok (.tableswitch 138 0 19 #[94, 138, 138, 138, 138, 138, 138, 138, 138, 101, 101, 101, 103, 110, 138, 138, 138, 138, 121, 131], 94) := by decide +kernel
theorem dX3_performAlone_112 : decode cX3_performAlone 112 = .ok (.aload_n 0, 1) := by decide +kernel
theorem dX3_performAlone_113 : decode cX3_performAlone 113 = .ok (.iconst 1, 1) := by decide +kernel
theorem dX3_performAlone_114 : decode cX3_performAlone 114 = .ok (.putfield 36, 3) := by decide +kernel
theorem dX3_performAlone_117 : decode cX3_performAlone 117 = .ok (.iconst 1, 1) := by decide +kernel
theorem dX3_performAlone_118 : decode cX3_performAlone 118 = .ok (.ireturn, 1) := by decide +kernel
theorem dX3_performAlone_119 : decode cX3_performAlone 119 = .ok (.iconst 1, 1) := by decide +kernel
theorem dX3_performAlone_120 : decode cX3_performAlone 120 = .ok (.ireturn, 1) := by decide +kernel
theorem dX3_performAlone_121 : decode cX3_performAlone 121 = .ok (.aload_n 0, 1) := by decide +kernel
theorem dX3_performAlone_122 : decode cX3_performAlone 122 = .ok (.iload_n 2, 1) := by decide +kernel
theorem dX3_performAlone_123 : decode cX3_performAlone 123 = .ok (.iload_n 3, 1) := by decide +kernel
theorem dX3_performAlone_124 : decode cX3_performAlone 124 = .ok (.invokevirtual 75, 3) := by decide +kernel
theorem dX3_performAlone_127 : decode cX3_performAlone 127 = .ok (.ireturn, 1) := by decide +kernel
theorem dX3_performAlone_128 : decode cX3_performAlone 128 = .ok (.aload_n 0, 1) := by decide +kernel
theorem dX3_performAlone_129 : decode cX3_performAlone 129 = .ok (.iload_n 3, 1) := by decide +kernel
theorem dX3_performAlone_130 : decode cX3_performAlone 130 = .ok (.aload_n 0, 1) := by decide +kernel
theorem dX3_performAlone_131 : decode cX3_performAlone 131 = .ok (.iload_n 2, 1) := by decide +kernel
theorem dX3_performAlone_132 : decode cX3_performAlone 132 = .ok (.invokevirtual 69, 3) := by decide +kernel
theorem dX3_performAlone_135 : decode cX3_performAlone 135 = .ok (.invokevirtual 78, 3) := by decide +kernel
theorem dX3_performAlone_138 : decode cX3_performAlone 138 = .ok (.ireturn, 1) := by decide +kernel
theorem dX3_performAlone_139 : decode cX3_performAlone 139 = .ok (.aload_n 0, 1) := by decide +kernel
theorem dX3_performAlone_140 : decode cX3_performAlone 140 = .ok (.aload_n 0, 1) := by decide +kernel
theorem dX3_performAlone_141 : decode cX3_performAlone 141 = .ok (.iload_n 2, 1) := by decide +kernel
theorem dX3_performAlone_142 : decode cX3_performAlone 142 = .ok (.invokevirtual 69, 3) := by decide +kernel
theorem dX3_performAlone_145 : decode cX3_performAlone 145 = .ok (.invokevirtual 81, 3) := by decide +kernel
theorem dX3_performAlone_148 : decode cX3_performAlone 148 = .ok (.ireturn, 1) := by decide +kernel
theorem dX3_performAlone_149 : decode cX3_performAlone 149 = .ok (.aload_n 0, 1) := by decide +kernel
theorem dX3_performAlone_150 : decode cX3_performAlone 150 = .ok (.iload_n 2, 1) := by decide +kernel
theorem dX3_performAlone_151 : decode cX3_performAlone 151 = .ok (.invokevirtual 85, 3) := by decide +kernel
theorem dX3_performAlone_154 : decode cX3_performAlone 154 = .ok (.iconst 1, 1) := by decide +kernel
theorem dX3_performAlone_155 : decode cX3_performAlone 155 = .ok (.ireturn, 1) := by decide +kernel
theorem dX3_performAlone_156 : decode cX3_performAlone 156 = .ok (.aload_n 0, 1) := by decide +kernel
theorem dX3_performAlone_157 : decode cX3_performAlone 157 = .ok (.iload_n 2, 1) := by decide +kernel
theorem dX3_performAlone_158 : decode cX3_performAlone 158 = .ok (.aload_n 0, 1) := by decide +kernel
theorem dX3_performAlone_159 : decode cX3_performAlone 159 = .ok (.iload_n 1, 1) := by decide +kernel
theorem dX3_performAlone_160 : decode cX3_performAlone 160 = .ok (.invokevirtual 88, 3) := by decide +kernel
theorem dX3_performAlone_163 : decode cX3_performAlone 163 = .ok (.invokevirtual 91, 3) := by decide +kernel
theorem dX3_performAlone_166 : decode cX3_performAlone 166 = .ok (.iconst 1, 1) := by decide +kernel
theorem dX3_performAlone_167 : decode cX3_performAlone 167 = .ok (.ireturn, 1) := by decide +kernel
theorem dX3_computed_0 : decode cX3_computed 0 = .ok (.aload_n 0, 1) := by decide +kernel
theorem dX3_computed_1 : decode cX3_computed 1 = .ok (.iload_n 1, 1) := by decide +kernel
theorem dX3_computed_2 : decode cX3_computed 2 = .ok (.invokestatic 66, 3) := by decide +kernel
theorem dX3_computed_5 : decode cX3_computed 5 = .ok (.invokevirtual 69, 3) := by decide +kernel
theorem dX3_computed_8 : decode cX3_computed 8 = .ok (.istore_n 2, 1) := by decide +kernel
theorem dX3_computed_9 : decode cX3_computed 9 = .ok (.aload_n 0, 1) := by decide +kernel
theorem dX3_computed_10 : decode cX3_computed 10 = .ok (.iload_n 1, 1) := by decide +kernel
theorem dX3_computed_11 : decode cX3_computed 11 = .ok (.invokestatic 95, 3) := by decide +kernel
theorem dX3_computed_14 : decode cX3_computed 14 = .ok (.invokevirtual 69, 3) := by decide +kernel
theorem dX3_computed_17 : decode cX3_computed 17 = .ok (.istore_n 3, 1) := by decide +kernel
theorem dX3_computed_18 : decode cX3_computed 18 = .ok (.iload_n 1, 1) := by decide +kernel
theorem dX3_computed_19 : decode cX3_computed 19 = .ok (.invokestatic 72, 3) := by decide +kernel
theorem dX3_computed_22 : decode cX3_computed 22 = .ok (.tableswitch 69 1 7 #[42, 47, 49, 53, 57, 61, 65], 42) := by decide +kernel
theorem dX3_computed_64 : decode cX3_computed 64 = .ok (.iload_n 1, 1) := by decide +kernel
theorem dX3_computed_65 : decode cX3_computed 65 = .ok (.bipush 16, 2) := by decide +kernel
theorem dX3_computed_67 : decode cX3_computed 67 = .ok (.ishr, 1) := by decide +kernel
theorem dX3_computed_68 : decode cX3_computed 68 = .ok (.ireturn, 1) := by decide +kernel
theorem dX3_computed_69 : decode cX3_computed 69 = .ok (.iload_n 2, 1) := by decide +kernel
theorem dX3_computed_70 : decode cX3_computed 70 = .ok (.ireturn, 1) := by decide +kernel
theorem dX3_computed_71 : decode cX3_computed 71 = .ok (.iload_n 2, 1) := by decide +kernel
theorem dX3_computed_72 : decode cX3_computed 72 = .ok (.iload_n 3, 1) := by decide +kernel
theorem dX3_computed_73 : decode cX3_computed 73 = .ok (.iadd, 1) := by decide +kernel
theorem dX3_computed_74 : decode cX3_computed 74 = .ok (.ireturn, 1) := by decide +kernel
theorem dX3_computed_75 : decode cX3_computed 75 = .ok (.iload_n 2, 1) := by decide +kernel
theorem dX3_computed_76 : decode cX3_computed 76 = .ok (.iload_n 3, 1) := by decide +kernel
theorem dX3_computed_77 : decode cX3_computed 77 = .ok (.isub, 1) := by decide +kernel
theorem dX3_computed_78 : decode cX3_computed 78 = .ok (.ireturn, 1) := by decide +kernel
theorem dX3_computed_79 : decode cX3_computed 79 = .ok (.iload_n 2, 1) := by decide +kernel
theorem dX3_computed_80 : decode cX3_computed 80 = .ok (.iload_n 3, 1) := by decide +kernel
theorem dX3_computed_81 : decode cX3_computed 81 = .ok (.imul, 1) := by decide +kernel
theorem dX3_computed_82 : decode cX3_computed 82 = .ok (.ireturn, 1) := by decide +kernel
theorem dX3_computed_83 : decode cX3_computed 83 = .ok (.iload_n 2, 1) := by decide +kernel
theorem dX3_computed_84 : decode cX3_computed 84 = .ok (.iload_n 3, 1) := by decide +kernel
theorem dX3_computed_85 : decode cX3_computed 85 = .ok (.iand, 1) := by decide +kernel
theorem dX3_computed_86 : decode cX3_computed 86 = .ok (.ireturn, 1) := by decide +kernel
theorem dX3_computed_87 : decode cX3_computed 87 = .ok (.iload_n 2, 1) := by decide +kernel
theorem dX3_computed_88 : decode cX3_computed 88 = .ok (.iload_n 3, 1) := by decide +kernel
theorem dX3_computed_89 : decode cX3_computed 89 = .ok (.ixor, 1) := by decide +kernel
theorem dX3_computed_90 : decode cX3_computed 90 = .ok (.ireturn, 1) := by decide +kernel
theorem dX3_computed_91 : decode cX3_computed 91 = .ok (.iload_n 2, 1) := by decide +kernel
theorem dX3_computed_92 : decode cX3_computed 92 = .ok (.iload_n 3, 1) := by decide +kernel
theorem dX3_computed_93 : decode cX3_computed 93 = .ok (.if_icmp .ge 7, 3) := by decide +kernel
theorem dX3_computed_96 : decode cX3_computed 96 = .ok (.iconst 1, 1) := by decide +kernel
theorem dX3_computed_97 : decode cX3_computed 97 = .ok (.goto 4, 3) := by decide +kernel
theorem dX3_computed_100 : decode cX3_computed 100 = .ok (.iconst 0, 1) := by decide +kernel
theorem dX3_computed_101 : decode cX3_computed 101 = .ok (.ireturn, 1) := by decide +kernel
theorem dX3_load_0 : decode cX3_load 0 = .ok (.iload_n 2, 1) := by decide +kernel
theorem dX3_load_1 : decode cX3_load 1 = .ok (.iconst 1, 1) := by decide +kernel
theorem dX3_load_2 : decode cX3_load 2 = .ok (.invokestatic 58, 3) := by decide +kernel
theorem dX3_load_5 : decode cX3_load 5 = .ok (.ifCond .ne 5, 3) := by decide +kernel
theorem dX3_load_8 : decode cX3_load 8 = .ok (.iconst 0, 1) := by decide +kernel
theorem dX3_load_9 : decode cX3_load 9 = .ok (.ireturn, 1) := by decide +kernel
theorem dX3_load_10 : decode cX3_load 10 = .ok (.aload_n 0, 1) := by decide +kernel
theorem dX3_load_11 : decode cX3_load 11 = .ok (.iload_n 1, 1) := by decide +kernel
theorem dX3_load_12 : decode cX3_load 12 = .ok (.aload_n 0, 1) := by decide +kernel
theorem dX3_load_13 : decode cX3_load 13 = .ok (.getfield 15, 3) := by decide +kernel
theorem dX3_load_16 : decode cX3_load 16 = .ok (.iload_n 2, 1) := by decide +kernel
theorem dX3_load_17 : decode cX3_load 17 = .ok (.iaload, 1) := by decide +kernel
theorem dX3_load_18 : decode cX3_load 18 = .ok (.invokevirtual 91, 3) := by decide +kernel
theorem dX3_load_21 : decode cX3_load 21 = .ok (.iconst 1, 1) := by decide +kernel
theorem dX3_load_22 : decode cX3_load 22 = .ok (.ireturn, 1) := by decide +kernel
theorem dX3_store_0 : decode cX3_store 0 = .ok (.iload_n 1, 1) := by decide +kernel
theorem dX3_store_1 : decode cX3_store 1 = .ok (.iconst 1, 1) := by decide +kernel
theorem dX3_store_2 : decode cX3_store 2 = .ok (.invokestatic 58, 3) := by decide +kernel
theorem dX3_store_5 : decode cX3_store 5 = .ok (.ifCond .ne 5, 3) := by decide +kernel
theorem dX3_store_8 : decode cX3_store 8 = .ok (.iconst 0, 1) := by decide +kernel
theorem dX3_store_9 : decode cX3_store 9 = .ok (.ireturn, 1) := by decide +kernel
theorem dX3_store_10 : decode cX3_store 10 = .ok (.aload_n 0, 1) := by decide +kernel
theorem dX3_store_11 : decode cX3_store 11 = .ok (.getfield 15, 3) := by decide +kernel
theorem dX3_store_14 : decode cX3_store 14 = .ok (.iload_n 1, 1) := by decide +kernel
theorem dX3_store_15 : decode cX3_store 15 = .ok (.iload_n 2, 1) := by decide +kernel
theorem dX3_store_16 : decode cX3_store 16 = .ok (.iastore, 1) := by decide +kernel
theorem dX3_store_17 : decode cX3_store 17 = .ok (.iconst 1, 1) := by decide +kernel
theorem dX3_store_18 : decode cX3_store 18 = .ok (.ireturn, 1) := by decide +kernel
theorem dX3_putOut_0 : decode cX3_putOut 0 = .ok (.aload_n 0, 1) := by decide +kernel
theorem dX3_putOut_1 : decode cX3_putOut 1 = .ok (.getfield 27, 3) := by decide +kernel
theorem dX3_putOut_4 : decode cX3_putOut 4 = .ok (.getfield 98, 3) := by decide +kernel
theorem dX3_putOut_7 : decode cX3_putOut 7 = .ok (.sipush 200, 3) := by decide +kernel
theorem dX3_putOut_10 : decode cX3_putOut 10 = .ok (.if_icmp .ne 5, 3) := by decide +kernel
theorem dX3_putOut_13 : decode cX3_putOut 13 = .ok (.iconst 0, 1) := by decide +kernel
theorem dX3_putOut_14 : decode cX3_putOut 14 = .ok (.ireturn, 1) := by decide +kernel
theorem dX3_putOut_15 : decode cX3_putOut 15 = .ok (.aload_n 0, 1) := by decide +kernel
theorem dX3_putOut_16 : decode cX3_putOut 16 = .ok (.getfield 27, 3) := by decide +kernel
theorem dX3_putOut_19 : decode cX3_putOut 19 = .ok (.iload_n 1, 1) := by decide +kernel
theorem dX3_putOut_20 : decode cX3_putOut 20 = .ok (.invokevirtual 101, 3) := by decide +kernel
theorem dX3_putOut_23 : decode cX3_putOut 23 = .ok (.iconst 1, 1) := by decide +kernel
theorem dX3_putOut_24 : decode cX3_putOut 24 = .ok (.ireturn, 1) := by decide +kernel
theorem dX3_takeInput_0 : decode cX3_takeInput 0 = .ok (.aload_n 0, 1) := by decide +kernel
theorem dX3_takeInput_1 : decode cX3_takeInput 1 = .ok (.getfield 23, 3) := by decide +kernel
theorem dX3_takeInput_4 : decode cX3_takeInput 4 = .ok (.getfield 98, 3) := by decide +kernel
theorem dX3_takeInput_7 : decode cX3_takeInput 7 = .ok (.ifCond .ne 9, 3) := by decide +kernel
theorem dX3_takeInput_10 : decode cX3_takeInput 10 = .ok (.aload_n 0, 1) := by decide +kernel
theorem dX3_takeInput_11 : decode cX3_takeInput 11 = .ok (.iconst 0, 1) := by decide +kernel
theorem dX3_takeInput_12 : decode cX3_takeInput 12 = .ok (.invokevirtual 104, 3) := by decide +kernel
theorem dX3_takeInput_15 : decode cX3_takeInput 15 = .ok (.return_, 1) := by decide +kernel
theorem dX3_takeInput_16 : decode cX3_takeInput 16 = .ok (.aload_n 0, 1) := by decide +kernel
theorem dX3_takeInput_17 : decode cX3_takeInput 17 = .ok (.iload_n 1, 1) := by decide +kernel
theorem dX3_takeInput_18 : decode cX3_takeInput 18 = .ok (.aload_n 0, 1) := by decide +kernel
theorem dX3_takeInput_19 : decode cX3_takeInput 19 = .ok (.getfield 23, 3) := by decide +kernel
theorem dX3_takeInput_22 : decode cX3_takeInput 22 = .ok (.iconst 0, 1) := by decide +kernel
theorem dX3_takeInput_23 : decode cX3_takeInput 23 = .ok (.invokevirtual 107, 3) := by decide +kernel
theorem dX3_takeInput_26 : decode cX3_takeInput 26 = .ok (.invokevirtual 91, 3) := by decide +kernel
theorem dX3_takeInput_29 : decode cX3_takeInput 29 = .ok (.aload_n 0, 1) := by decide +kernel
theorem dX3_takeInput_30 : decode cX3_takeInput 30 = .ok (.getfield 23, 3) := by decide +kernel
theorem dX3_takeInput_33 : decode cX3_takeInput 33 = .ok (.invokevirtual 110, 3) := by decide +kernel
theorem dX3_takeInput_36 : decode cX3_takeInput 36 = .ok (.aload_n 0, 1) := by decide +kernel
theorem dX3_takeInput_37 : decode cX3_takeInput 37 = .ok (.iconst 1, 1) := by decide +kernel
theorem dX3_takeInput_38 : decode cX3_takeInput 38 = .ok (.invokevirtual 104, 3) := by decide +kernel
theorem dX3_takeInput_41 : decode cX3_takeInput 41 = .ok (.return_, 1) := by decide +kernel
theorem dX3_placeAfter_0 : decode cX3_placeAfter 0 = .ok (.aload_n 0, 1) := by decide +kernel
theorem dX3_placeAfter_1 : decode cX3_placeAfter 1 = .ok (.iload_n 1, 1) := by decide +kernel
theorem dX3_placeAfter_2 : decode cX3_placeAfter 2 = .ok (.invokestatic 62, 3) := by decide +kernel
theorem dX3_placeAfter_5 : decode cX3_placeAfter 5 = .ok (.invokevirtual 69, 3) := by decide +kernel
theorem dX3_placeAfter_8 : decode cX3_placeAfter 8 = .ok (.istore_n 2, 1) := by decide +kernel
theorem dX3_placeAfter_9 : decode cX3_placeAfter 9 = .ok (.iload_n 1, 1) := by decide +kernel
theorem dX3_placeAfter_10 : decode cX3_placeAfter 10 = .ok (.invokestatic 66, 3) := by decide +kernel
theorem dX3_placeAfter_13 : decode cX3_placeAfter 13 = .ok (.istore_n 3, 1) := by decide +kernel
theorem dX3_placeAfter_14 : decode cX3_placeAfter 14 = .ok (.iload_n 1, 1) := by decide +kernel
theorem dX3_placeAfter_15 : decode cX3_placeAfter 15 = .ok (.invokestatic 72, 3) := by decide +kernel
theorem dX3_placeAfter_18 : decode cX3_placeAfter 18 = .ok (.lookupswitch 79 #[(0, 42), (9, 47), (10, 49), (11, 64)], 42) := by decide +kernel
theorem dX3_placeAfter_60 : decode cX3_placeAfter 60 = .ok (.aload_n 0, 1) := by decide +kernel
theorem dX3_placeAfter_61 : decode cX3_placeAfter 61 = .ok (.getfield 49, 3) := by decide +kernel
theorem dX3_placeAfter_64 : decode cX3_placeAfter 64 = .ok (.ireturn, 1) := by decide +kernel
theorem dX3_placeAfter_65 : decode cX3_placeAfter 65 = .ok (.iload_n 3, 1) := by decide +kernel
theorem dX3_placeAfter_66 : decode cX3_placeAfter 66 = .ok (.ireturn, 1) := by decide +kernel
theorem dX3_placeAfter_67 : decode cX3_placeAfter 67 = .ok (.iload_n 2, 1) := by decide +kernel
theorem dX3_placeAfter_68 : decode cX3_placeAfter 68 = .ok (.ifCond .ne 7, 3) := by decide +kernel
theorem dX3_placeAfter_71 : decode cX3_placeAfter 71 = .ok (.iload_n 3, 1) := by decide +kernel
theorem dX3_placeAfter_72 : decode cX3_placeAfter 72 = .ok (.goto 9, 3) := by decide +kernel
theorem dX3_placeAfter_75 : decode cX3_placeAfter 75 = .ok (.aload_n 0, 1) := by decide +kernel
theorem dX3_placeAfter_76 : decode cX3_placeAfter 76 = .ok (.getfield 49, 3) := by decide +kernel
theorem dX3_placeAfter_79 : decode cX3_placeAfter 79 = .ok (.iconst 1, 1) := by decide +kernel
theorem dX3_placeAfter_80 : decode cX3_placeAfter 80 = .ok (.iadd, 1) := by decide +kernel
theorem dX3_placeAfter_81 : decode cX3_placeAfter 81 = .ok (.ireturn, 1) := by decide +kernel
theorem dX3_placeAfter_82 : decode cX3_placeAfter 82 = .ok (.iload_n 2, 1) := by decide +kernel
theorem dX3_placeAfter_83 : decode cX3_placeAfter 83 = .ok (.ifCond .eq 7, 3) := by decide +kernel
theorem dX3_placeAfter_86 : decode cX3_placeAfter 86 = .ok (.iload_n 3, 1) := by decide +kernel
theorem dX3_placeAfter_87 : decode cX3_placeAfter 87 = .ok (.goto 9, 3) := by decide +kernel
theorem dX3_placeAfter_90 : decode cX3_placeAfter 90 = .ok (.aload_n 0, 1) := by decide +kernel
theorem dX3_placeAfter_91 : decode cX3_placeAfter 91 = .ok (.getfield 49, 3) := by decide +kernel
theorem dX3_placeAfter_94 : decode cX3_placeAfter 94 = .ok (.iconst 1, 1) := by decide +kernel
theorem dX3_placeAfter_95 : decode cX3_placeAfter 95 = .ok (.iadd, 1) := by decide +kernel
theorem dX3_placeAfter_96 : decode cX3_placeAfter 96 = .ok (.ireturn, 1) := by decide +kernel
theorem dX3_placeAfter_97 : decode cX3_placeAfter 97 = .ok (.aload_n 0, 1) := by decide +kernel
theorem dX3_placeAfter_98 : decode cX3_placeAfter 98 = .ok (.getfield 49, 3) := by decide +kernel
theorem dX3_placeAfter_101 : decode cX3_placeAfter 101 = .ok (.iconst 1, 1) := by decide +kernel
theorem dX3_placeAfter_102 : decode cX3_placeAfter 102 = .ok (.iadd, 1) := by decide +kernel
theorem dX3_placeAfter_103 : decode cX3_placeAfter 103 = .ok (.ireturn, 1) := by decide +kernel
theorem dX3_fail_0 : decode cX3_fail 0 = .ok (.aload_n 0, 1) := by decide +kernel
theorem dX3_fail_1 : decode cX3_fail 1 = .ok (.dup, 1) := by decide +kernel
theorem dX3_fail_2 : decode cX3_fail 2 = .ok (.getfield 40, 3) := by decide +kernel
theorem dX3_fail_5 : decode cX3_fail 5 = .ok (.iconst 1, 1) := by decide +kernel
theorem dX3_fail_6 : decode cX3_fail 6 = .ok (.iadd, 1) := by decide +kernel
theorem dX3_fail_7 : decode cX3_fail 7 = .ok (.putfield 40, 3) := by decide +kernel
theorem dX3_fail_10 : decode cX3_fail 10 = .ok (.iload_n 1, 1) := by decide +kernel
theorem dX3_fail_11 : decode cX3_fail 11 = .ok (.iconst 1, 1) := by decide +kernel
theorem dX3_fail_12 : decode cX3_fail 12 = .ok (.if_icmp .ne 10, 3) := by decide +kernel
theorem dX3_fail_15 : decode cX3_fail 15 = .ok (.aload_n 0, 1) := by decide +kernel
theorem dX3_fail_16 : decode cX3_fail 16 = .ok (.invokevirtual 30, 3) := by decide +kernel
theorem dX3_fail_19 : decode cX3_fail 19 = .ok (.goto 26, 3) := by decide +kernel
theorem dX3_fail_22 : decode cX3_fail 22 = .ok (.iload_n 1, 1) := by decide +kernel
theorem dX3_fail_23 : decode cX3_fail 23 = .ok (.iconst 2, 1) := by decide +kernel
theorem dX3_fail_24 : decode cX3_fail 24 = .ok (.if_icmp .ne 16, 3) := by decide +kernel
theorem dX3_fail_27 : decode cX3_fail 27 = .ok (.aload_n 0, 1) := by decide +kernel
theorem dX3_fail_28 : decode cX3_fail 28 = .ok (.dup, 1) := by decide +kernel
theorem dX3_fail_29 : decode cX3_fail 29 = .ok (.getfield 49, 3) := by decide +kernel
theorem dX3_fail_32 : decode cX3_fail 32 = .ok (.iconst 1, 1) := by decide +kernel
theorem dX3_fail_33 : decode cX3_fail 33 = .ok (.iadd, 1) := by decide +kernel
theorem dX3_fail_34 : decode cX3_fail 34 = .ok (.putfield 49, 3) := by decide +kernel
theorem dX3_fail_37 : decode cX3_fail 37 = .ok (.goto 8, 3) := by decide +kernel
theorem dX3_fail_40 : decode cX3_fail 40 = .ok (.aload_n 0, 1) := by decide +kernel
theorem dX3_fail_41 : decode cX3_fail 41 = .ok (.iconst 2, 1) := by decide +kernel
theorem dX3_fail_42 : decode cX3_fail 42 = .ok (.putfield 36, 3) := by decide +kernel
theorem dX3_fail_45 : decode cX3_fail 45 = .ok (.return_, 1) := by decide +kernel
theorem dX3_isSame_0 : decode cX3_isSame 0 = .ok (.aload_n 0, 1) := by decide +kernel
theorem dX3_isSame_1 : decode cX3_isSame 1 = .ok (.getfield 49, 3) := by decide +kernel
theorem dX3_isSame_4 : decode cX3_isSame 4 = .ok (.aload_n 1, 1) := by decide +kernel
theorem dX3_isSame_5 : decode cX3_isSame 5 = .ok (.getfield 49, 3) := by decide +kernel
theorem dX3_isSame_8 : decode cX3_isSame 8 = .ok (.if_icmp .ne 25, 3) := by decide +kernel
theorem dX3_isSame_11 : decode cX3_isSame 11 = .ok (.aload_n 0, 1) := by decide +kernel
theorem dX3_isSame_12 : decode cX3_isSame 12 = .ok (.getfield 36, 3) := by decide +kernel
theorem dX3_isSame_15 : decode cX3_isSame 15 = .ok (.aload_n 1, 1) := by decide +kernel
theorem dX3_isSame_16 : decode cX3_isSame 16 = .ok (.getfield 36, 3) := by decide +kernel
theorem dX3_isSame_19 : decode cX3_isSame 19 = .ok (.if_icmp .ne 14, 3) := by decide +kernel
theorem dX3_isSame_22 : decode cX3_isSame 22 = .ok (.aload_n 0, 1) := by decide +kernel
theorem dX3_isSame_23 : decode cX3_isSame 23 = .ok (.getfield 40, 3) := by decide +kernel
theorem dX3_isSame_26 : decode cX3_isSame 26 = .ok (.aload_n 1, 1) := by decide +kernel
theorem dX3_isSame_27 : decode cX3_isSame 27 = .ok (.getfield 40, 3) := by decide +kernel
theorem dX3_isSame_30 : decode cX3_isSame 30 = .ok (.if_icmp .eq 5, 3) := by decide +kernel
theorem dX3_isSame_33 : decode cX3_isSame 33 = .ok (.iconst 0, 1) := by decide +kernel
theorem dX3_isSame_34 : decode cX3_isSame 34 = .ok (.ireturn, 1) := by decide +kernel
theorem dX3_isSame_35 : decode cX3_isSame 35 = .ok (.iconst 0, 1) := by decide +kernel
theorem dX3_isSame_36 : decode cX3_isSame 36 = .ok (.istore_n 2, 1) := by decide +kernel
theorem dX3_isSame_37 : decode cX3_isSame 37 = .ok (.iload_n 2, 1) := by decide +kernel
theorem dX3_isSame_38 : decode cX3_isSame 38 = .ok (.bipush 8, 2) := by decide +kernel
theorem dX3_isSame_40 : decode cX3_isSame 40 = .ok (.if_icmp .ge 26, 3) := by decide +kernel
theorem dX3_isSame_43 : decode cX3_isSame 43 = .ok (.aload_n 0, 1) := by decide +kernel
theorem dX3_isSame_44 : decode cX3_isSame 44 = .ok (.getfield 9, 3) := by decide +kernel
theorem dX3_isSame_47 : decode cX3_isSame 47 = .ok (.iload_n 2, 1) := by decide +kernel
theorem dX3_isSame_48 : decode cX3_isSame 48 = .ok (.iaload, 1) := by decide +kernel
theorem dX3_isSame_49 : decode cX3_isSame 49 = .ok (.aload_n 1, 1) := by decide +kernel
theorem dX3_isSame_50 : decode cX3_isSame 50 = .ok (.getfield 9, 3) := by decide +kernel
theorem dX3_isSame_53 : decode cX3_isSame 53 = .ok (.iload_n 2, 1) := by decide +kernel
theorem dX3_isSame_54 : decode cX3_isSame 54 = .ok (.iaload, 1) := by decide +kernel
theorem dX3_isSame_55 : decode cX3_isSame 55 = .ok (.if_icmp .eq 5, 3) := by decide +kernel
theorem dX3_isSame_58 : decode cX3_isSame 58 = .ok (.iconst 0, 1) := by decide +kernel
theorem dX3_isSame_59 : decode cX3_isSame 59 = .ok (.ireturn, 1) := by decide +kernel
theorem dX3_isSame_60 : decode cX3_isSame 60 = .ok (.iinc 2 1, 3) := by decide +kernel
theorem dX3_isSame_63 : decode cX3_isSame 63 = .ok (.goto (-26), 3) := by decide +kernel
theorem dX3_isSame_66 : decode cX3_isSame 66 = .ok (.iconst 0, 1) := by decide +kernel
theorem dX3_isSame_67 : decode cX3_isSame 67 = .ok (.istore_n 2, 1) := by decide +kernel
theorem dX3_isSame_68 : decode cX3_isSame 68 = .ok (.iload_n 2, 1) := by decide +kernel
theorem dX3_isSame_69 : decode cX3_isSame 69 = .ok (.bipush 32, 2) := by decide +kernel
theorem dX3_isSame_71 : decode cX3_isSame 71 = .ok (.if_icmp .ge 26, 3) := by decide +kernel
theorem dX3_isSame_74 : decode cX3_isSame 74 = .ok (.aload_n 0, 1) := by decide +kernel
theorem dX3_isSame_75 : decode cX3_isSame 75 = .ok (.getfield 15, 3) := by decide +kernel
theorem dX3_isSame_78 : decode cX3_isSame 78 = .ok (.iload_n 2, 1) := by decide +kernel
theorem dX3_isSame_79 : decode cX3_isSame 79 = .ok (.iaload, 1) := by decide +kernel
theorem dX3_isSame_80 : decode cX3_isSame 80 = .ok (.aload_n 1, 1) := by decide +kernel
theorem dX3_isSame_81 : decode cX3_isSame 81 = .ok (.getfield 15, 3) := by decide +kernel
theorem dX3_isSame_84 : decode cX3_isSame 84 = .ok (.iload_n 2, 1) := by decide +kernel
theorem dX3_isSame_85 : decode cX3_isSame 85 = .ok (.iaload, 1) := by decide +kernel
theorem dX3_isSame_86 : decode cX3_isSame 86 = .ok (.if_icmp .eq 5, 3) := by decide +kernel
theorem dX3_isSame_89 : decode cX3_isSame 89 = .ok (.iconst 0, 1) := by decide +kernel
theorem dX3_isSame_90 : decode cX3_isSame 90 = .ok (.ireturn, 1) := by decide +kernel
theorem dX3_isSame_91 : decode cX3_isSame 91 = .ok (.iinc 2 1, 3) := by decide +kernel
theorem dX3_isSame_94 : decode cX3_isSame 94 = .ok (.goto (-26), 3) := by decide +kernel
theorem dX3_isSame_97 : decode cX3_isSame 97 = .ok (.aload_n 0, 1) := by decide +kernel
theorem dX3_isSame_98 : decode cX3_isSame 98 = .ok (.getfield 23, 3) := by decide +kernel
theorem dX3_isSame_101 : decode cX3_isSame 101 = .ok (.aload_n 1, 1) := by decide +kernel
theorem dX3_isSame_102 : decode cX3_isSame 102 = .ok (.getfield 23, 3) := by decide +kernel
theorem dX3_isSame_105 : decode cX3_isSame 105 = .ok (.invokevirtual 113, 3) := by decide +kernel
theorem dX3_isSame_108 : decode cX3_isSame 108 = .ok (.ifCond .eq 21, 3) := by decide +kernel
theorem dX3_isSame_111 : decode cX3_isSame 111 = .ok (.aload_n 0, 1) := by decide +kernel
theorem dX3_isSame_112 : decode cX3_isSame 112 = .ok (.getfield 27, 3) := by decide +kernel
theorem dX3_isSame_115 : decode cX3_isSame 115 = .ok (.aload_n 1, 1) := by decide +kernel
theorem dX3_isSame_116 : decode cX3_isSame 116 = .ok (.getfield 27, 3) := by decide +kernel
theorem dX3_isSame_119 : decode cX3_isSame 119 = .ok (.invokevirtual 113, 3) := by decide +kernel
theorem dX3_isSame_122 : decode cX3_isSame 122 = .ok (.ifCond .eq 7, 3) := by decide +kernel
theorem dX3_isSame_125 : decode cX3_isSame 125 = .ok (.iconst 1, 1) := by decide +kernel
theorem dX3_isSame_126 : decode cX3_isSame 126 = .ok (.goto 4, 3) := by decide +kernel
theorem dX3_isSame_129 : decode cX3_isSame 129 = .ok (.iconst 0, 1) := by decide +kernel
theorem dX3_isSame_130 : decode cX3_isSame 130 = .ok (.ireturn, 1) := by decide +kernel
theorem dX4_init_0 : decode cX4_init 0 = .ok (.aload_n 0, 1) := by decide +kernel
theorem dX4_init_1 : decode cX4_init 1 = .ok (.invokespecial 1, 3) := by decide +kernel
theorem dX4_init_4 : decode cX4_init 4 = .ok (.aload_n 0, 1) := by decide +kernel
theorem dX4_init_5 : decode cX4_init 5 = .ok (.iload_n 1, 1) := by decide +kernel
theorem dX4_init_6 : decode cX4_init 6 = .ok (.putfield 7, 3) := by decide +kernel
theorem dX4_init_9 : decode cX4_init 9 = .ok (.aload_n 0, 1) := by decide +kernel
theorem dX4_init_10 : decode cX4_init 10 = .ok (.iload_n 2, 1) := by decide +kernel
theorem dX4_init_11 : decode cX4_init 11 = .ok (.putfield 13, 3) := by decide +kernel
theorem dX4_init_14 : decode cX4_init 14 = .ok (.aload_n 0, 1) := by decide +kernel
theorem dX4_init_15 : decode cX4_init 15 = .ok (.iload_n 3, 1) := by decide +kernel
theorem dX4_init_16 : decode cX4_init 16 = .ok (.putfield 16, 3) := by decide +kernel
theorem dX4_init_19 : decode cX4_init 19 = .ok (.aload_n 0, 1) := by decide +kernel
theorem dX4_init_20 : decode cX4_init 20 = .ok (.iload 4, 2) := by decide +kernel
theorem dX4_init_22 : decode cX4_init 22 = .ok (.putfield 20, 3) := by decide +kernel
theorem dX4_init_25 : decode cX4_init 25 = .ok (.return_, 1) := by decide +kernel
theorem dX5_init_0 : decode cX5_init 0 = .ok (.aload_n 0, 1) := by decide +kernel
theorem dX5_init_1 : decode cX5_init 1 = .ok (.invokespecial 3, 3) := by decide +kernel
theorem dX5_init_4 : decode cX5_init 4 = .ok (.aload_n 0, 1) := by decide +kernel
theorem dX5_init_5 : decode cX5_init 5 = .ok (.aload_n 1, 1) := by decide +kernel
theorem dX5_init_6 : decode cX5_init 6 = .ok (.putfield 9, 3) := by decide +kernel
theorem dX5_init_9 : decode cX5_init 9 = .ok (.aload_n 0, 1) := by decide +kernel
theorem dX5_init_10 : decode cX5_init 10 = .ok (.aload_n 1, 1) := by decide +kernel
theorem dX5_init_11 : decode cX5_init 11 = .ok (.getfield 15, 3) := by decide +kernel
theorem dX5_init_14 : decode cX5_init 14 = .ok (.anewarray 21, 3) := by decide +kernel
theorem dX5_init_17 : decode cX5_init 17 = .ok (.putfield 23, 3) := by decide +kernel
theorem dX5_init_20 : decode cX5_init 20 = .ok (.iconst 0, 1) := by decide +kernel
theorem dX5_init_21 : decode cX5_init 21 = .ok (.istore_n 2, 1) := by decide +kernel
theorem dX5_init_22 : decode cX5_init 22 = .ok (.iload_n 2, 1) := by decide +kernel
theorem dX5_init_23 : decode cX5_init 23 = .ok (.aload_n 1, 1) := by decide +kernel
theorem dX5_init_24 : decode cX5_init 24 = .ok (.getfield 15, 3) := by decide +kernel
theorem dX5_init_27 : decode cX5_init 27 = .ok (.if_icmp .ge 22, 3) := by decide +kernel
theorem dX5_init_30 : decode cX5_init 30 = .ok (.aload_n 0, 1) := by decide +kernel
theorem dX5_init_31 : decode cX5_init 31 = .ok (.getfield 23, 3) := by decide +kernel
theorem dX5_init_34 : decode cX5_init 34 = .ok (.iload_n 2, 1) := by decide +kernel
theorem dX5_init_35 : decode cX5_init 35 = .ok (.new 21, 3) := by decide +kernel
theorem dX5_init_38 : decode cX5_init 38 = .ok (.dup, 1) := by decide +kernel
theorem dX5_init_39 : decode cX5_init 39 = .ok (.invokespecial 27, 3) := by decide +kernel
theorem dX5_init_42 : decode cX5_init 42 = .ok (.aastore, 1) := by decide +kernel
theorem dX5_init_43 : decode cX5_init 43 = .ok (.iinc 2 1, 3) := by decide +kernel
theorem dX5_init_46 : decode cX5_init 46 = .ok (.goto (-24), 3) := by decide +kernel
theorem dX5_init_49 : decode cX5_init 49 = .ok (.aload_n 0, 1) := by decide +kernel
theorem dX5_init_50 : decode cX5_init 50 = .ok (.bipush 12, 2) := by decide +kernel
theorem dX5_init_52 : decode cX5_init 52 = .ok (.anewarray 28, 3) := by decide +kernel
theorem dX5_init_55 : decode cX5_init 55 = .ok (.putfield 30, 3) := by decide +kernel
theorem dX5_init_58 : decode cX5_init 58 = .ok (.iconst 0, 1) := by decide +kernel
theorem dX5_init_59 : decode cX5_init 59 = .ok (.istore_n 2, 1) := by decide +kernel
theorem dX5_init_60 : decode cX5_init 60 = .ok (.iload_n 2, 1) := by decide +kernel
theorem dX5_init_61 : decode cX5_init 61 = .ok (.aload_n 1, 1) := by decide +kernel
theorem dX5_init_62 : decode cX5_init 62 = .ok (.getfield 34, 3) := by decide +kernel
theorem dX5_init_65 : decode cX5_init 65 = .ok (.if_icmp .ge 28, 3) := by decide +kernel
theorem dX5_init_68 : decode cX5_init 68 = .ok (.aload_n 0, 1) := by decide +kernel
theorem dX5_init_69 : decode cX5_init 69 = .ok (.getfield 30, 3) := by decide +kernel
theorem dX5_init_72 : decode cX5_init 72 = .ok (.iload_n 2, 1) := by decide +kernel
theorem dX5_init_73 : decode cX5_init 73 = .ok (.new 28, 3) := by decide +kernel
theorem dX5_init_76 : decode cX5_init 76 = .ok (.dup, 1) := by decide +kernel
theorem dX5_init_77 : decode cX5_init 77 = .ok (.aload_n 1, 1) := by decide +kernel
theorem dX5_init_78 : decode cX5_init 78 = .ok (.getfield 37, 3) := by decide +kernel
theorem dX5_init_81 : decode cX5_init 81 = .ok (.iload_n 2, 1) := by decide +kernel
theorem dX5_init_82 : decode cX5_init 82 = .ok (.aaload, 1) := by decide +kernel
theorem dX5_init_83 : decode cX5_init 83 = .ok (.invokespecial 41, 3) := by decide +kernel
theorem dX5_init_86 : decode cX5_init 86 = .ok (.aastore, 1) := by decide +kernel
theorem dX5_init_87 : decode cX5_init 87 = .ok (.iinc 2 1, 3) := by decide +kernel
theorem dX5_init_90 : decode cX5_init 90 = .ok (.goto (-30), 3) := by decide +kernel
theorem dX5_init_93 : decode cX5_init 93 = .ok (.aload_n 0, 1) := by decide +kernel
theorem dX5_init_94 : decode cX5_init 94 = .ok (.new 44, 3) := by decide +kernel
theorem dX5_init_97 : decode cX5_init 97 = .ok (.dup, 1) := by decide +kernel
theorem dX5_init_98 : decode cX5_init 98 = .ok (.aload_n 1, 1) := by decide +kernel
theorem dX5_init_99 : decode cX5_init 99 = .ok (.invokespecial 46, 3) := by decide +kernel
theorem dX5_init_102 : decode cX5_init 102 = .ok (.putfield 49, 3) := by decide +kernel
theorem dX5_init_105 : decode cX5_init 105 = .ok (.return_, 1) := by decide +kernel
theorem dX5_reset_0 : decode cX5_reset 0 = .ok (.iconst 0, 1) := by decide +kernel
theorem dX5_reset_1 : decode cX5_reset 1 = .ok (.istore_n 1, 1) := by decide +kernel
theorem dX5_reset_2 : decode cX5_reset 2 = .ok (.iload_n 1, 1) := by decide +kernel
theorem dX5_reset_3 : decode cX5_reset 3 = .ok (.aload_n 0, 1) := by decide +kernel
theorem dX5_reset_4 : decode cX5_reset 4 = .ok (.getfield 9, 3) := by decide +kernel
theorem dX5_reset_7 : decode cX5_reset 7 = .ok (.getfield 15, 3) := by decide +kernel
theorem dX5_reset_10 : decode cX5_reset 10 = .ok (.if_icmp .ge 18, 3) := by decide +kernel
theorem dX5_reset_13 : decode cX5_reset 13 = .ok (.aload_n 0, 1) := by decide +kernel
theorem dX5_reset_14 : decode cX5_reset 14 = .ok (.getfield 23, 3) := by decide +kernel
theorem dX5_reset_17 : decode cX5_reset 17 = .ok (.iload_n 1, 1) := by decide +kernel
theorem dX5_reset_18 : decode cX5_reset 18 = .ok (.aaload, 1) := by decide +kernel
theorem dX5_reset_19 : decode cX5_reset 19 = .ok (.invokevirtual 53, 3) := by decide +kernel
theorem dX5_reset_22 : decode cX5_reset 22 = .ok (.iinc 1 1, 3) := by decide +kernel
theorem dX5_reset_25 : decode cX5_reset 25 = .ok (.goto (-23), 3) := by decide +kernel
theorem dX5_reset_28 : decode cX5_reset 28 = .ok (.iconst 0, 1) := by decide +kernel
theorem dX5_reset_29 : decode cX5_reset 29 = .ok (.istore_n 1, 1) := by decide +kernel
theorem dX5_reset_30 : decode cX5_reset 30 = .ok (.iload_n 1, 1) := by decide +kernel
theorem dX5_reset_31 : decode cX5_reset 31 = .ok (.aload_n 0, 1) := by decide +kernel
theorem dX5_reset_32 : decode cX5_reset 32 = .ok (.getfield 9, 3) := by decide +kernel
theorem dX5_reset_35 : decode cX5_reset 35 = .ok (.getfield 34, 3) := by decide +kernel
theorem dX5_reset_38 : decode cX5_reset 38 = .ok (.if_icmp .ge 18, 3) := by decide +kernel
theorem dX5_reset_41 : decode cX5_reset 41 = .ok (.aload_n 0, 1) := by decide +kernel
theorem dX5_reset_42 : decode cX5_reset 42 = .ok (.getfield 30, 3) := by decide +kernel
theorem dX5_reset_45 : decode cX5_reset 45 = .ok (.iload_n 1, 1) := by decide +kernel
theorem dX5_reset_46 : decode cX5_reset 46 = .ok (.aaload, 1) := by decide +kernel
theorem dX5_reset_47 : decode cX5_reset 47 = .ok (.invokevirtual 56, 3) := by decide +kernel
theorem dX5_reset_50 : decode cX5_reset 50 = .ok (.iinc 1 1, 3) := by decide +kernel
theorem dX5_reset_53 : decode cX5_reset 53 = .ok (.goto (-23), 3) := by decide +kernel
theorem dX5_reset_56 : decode cX5_reset 56 = .ok (.aload_n 0, 1) := by decide +kernel
theorem dX5_reset_57 : decode cX5_reset 57 = .ok (.getfield 49, 3) := by decide +kernel
theorem dX5_reset_60 : decode cX5_reset 60 = .ok (.invokevirtual 57, 3) := by decide +kernel
theorem dX5_reset_63 : decode cX5_reset 63 = .ok (.aload_n 0, 1) := by decide +kernel
theorem dX5_reset_64 : decode cX5_reset 64 = .ok (.iconst 0, 1) := by decide +kernel
theorem dX5_reset_65 : decode cX5_reset 65 = .ok (.putfield 60, 3) := by decide +kernel
theorem dX5_reset_68 : decode cX5_reset 68 = .ok (.return_, 1) := by decide +kernel
theorem dX5_stepIsDue_0 : decode cX5_stepIsDue 0 = .ok (.aload_n 0, 1) := by decide +kernel
theorem dX5_stepIsDue_1 : decode cX5_stepIsDue 1 = .ok (.getfield 60, 3) := by decide +kernel
theorem dX5_stepIsDue_4 : decode cX5_stepIsDue 4 = .ok (.ifCond .eq 17, 3) := by decide +kernel
theorem dX5_stepIsDue_7 : decode cX5_stepIsDue 7 = .ok (.aload_n 0, 1) := by decide +kernel
theorem dX5_stepIsDue_8 : decode cX5_stepIsDue 8 = .ok (.getfield 49, 3) := by decide +kernel
theorem dX5_stepIsDue_11 : decode cX5_stepIsDue 11 = .ok (.invokevirtual 64, 3) := by decide +kernel
theorem dX5_stepIsDue_14 : decode cX5_stepIsDue 14 = .ok (.ifCond .ne 7, 3) := by decide +kernel
theorem dX5_stepIsDue_17 : decode cX5_stepIsDue 17 = .ok (.iconst 1, 1) := by decide +kernel
theorem dX5_stepIsDue_18 : decode cX5_stepIsDue 18 = .ok (.goto 4, 3) := by decide +kernel
theorem dX5_stepIsDue_21 : decode cX5_stepIsDue 21 = .ok (.iconst 0, 1) := by decide +kernel
theorem dX5_stepIsDue_22 : decode cX5_stepIsDue 22 = .ok (.istore_n 1, 1) := by decide +kernel
theorem dX5_stepIsDue_23 : decode cX5_stepIsDue 23 = .ok (.aload_n 0, 1) := by decide +kernel
theorem dX5_stepIsDue_24 : decode cX5_stepIsDue 24 = .ok (.getfield 23, 3) := by decide +kernel
theorem dX5_stepIsDue_27 : decode cX5_stepIsDue 27 = .ok (.aload_n 0, 1) := by decide +kernel
theorem dX5_stepIsDue_28 : decode cX5_stepIsDue 28 = .ok (.getfield 49, 3) := by decide +kernel
theorem dX5_stepIsDue_31 : decode cX5_stepIsDue 31 = .ok (.invokevirtual 68, 3) := by decide +kernel
theorem dX5_stepIsDue_34 : decode cX5_stepIsDue 34 = .ok (.aaload, 1) := by decide +kernel
theorem dX5_stepIsDue_35 : decode cX5_stepIsDue 35 = .ok (.getfield 72, 3) := by decide +kernel
theorem dX5_stepIsDue_38 : decode cX5_stepIsDue 38 = .ok (.ifCond .ne 11, 3) := by decide +kernel
theorem dX5_stepIsDue_41 : decode cX5_stepIsDue 41 = .ok (.iload_n 1, 1) := by decide +kernel
theorem dX5_stepIsDue_42 : decode cX5_stepIsDue 42 = .ok (.ifCond .ne 7, 3) := by decide +kernel
theorem dX5_stepIsDue_45 : decode cX5_stepIsDue 45 = .ok (.iconst 1, 1) := by decide +kernel
theorem dX5_stepIsDue_46 : decode cX5_stepIsDue 46 = .ok (.goto 4, 3) := by decide +kernel
theorem dX5_stepIsDue_49 : decode cX5_stepIsDue 49 = .ok (.iconst 0, 1) := by decide +kernel
theorem dX5_stepIsDue_50 : decode cX5_stepIsDue 50 = .ok (.ireturn, 1) := by decide +kernel
theorem dX5_dueInstruction_0 : decode cX5_dueInstruction 0 = .ok (.aload_n 0, 1) := by decide +kernel
theorem dX5_dueInstruction_1 : decode cX5_dueInstruction 1 = .ok (.getfield 49, 3) := by decide +kernel
theorem dX5_dueInstruction_4 : decode cX5_dueInstruction 4 = .ok (.invokevirtual 68, 3) := by decide +kernel
theorem dX5_dueInstruction_7 : decode cX5_dueInstruction 7 = .ok (.istore_n 1, 1) := by decide +kernel
theorem dX5_dueInstruction_8 : decode cX5_dueInstruction 8 = .ok (.aload_n 0, 1) := by decide +kernel
theorem dX5_dueInstruction_9 : decode cX5_dueInstruction 9 = .ok (.getfield 9, 3) := by decide +kernel
theorem dX5_dueInstruction_12 : decode cX5_dueInstruction 12 = .ok (.getfield 75, 3) := by decide +kernel
theorem dX5_dueInstruction_15 : decode cX5_dueInstruction 15 = .ok (.iload_n 1, 1) := by decide +kernel
theorem dX5_dueInstruction_16 : decode cX5_dueInstruction 16 = .ok (.aaload, 1) := by decide +kernel
theorem dX5_dueInstruction_17 : decode cX5_dueInstruction 17 = .ok (.aload_n 0, 1) := by decide +kernel
theorem dX5_dueInstruction_18 : decode cX5_dueInstruction 18 = .ok (.getfield 23, 3) := by decide +kernel
theorem dX5_dueInstruction_21 : decode cX5_dueInstruction 21 = .ok (.iload_n 1, 1) := by decide +kernel
theorem dX5_dueInstruction_22 : decode cX5_dueInstruction 22 = .ok (.aaload, 1) := by decide +kernel
theorem dX5_dueInstruction_23 : decode cX5_dueInstruction 23 = .ok (.getfield 79, 3) := by decide +kernel
theorem dX5_dueInstruction_26 : decode cX5_dueInstruction 26 = .ok (.invokevirtual 82, 3) := by decide +kernel
theorem dX5_dueInstruction_29 : decode cX5_dueInstruction 29 = .ok (.ireturn, 1) := by decide +kernel
theorem dX5_passWithStep_0 : decode cX5_passWithStep 0 = .ok (.aload_n 0, 1) := by decide +kernel
theorem dX5_passWithStep_1 : decode cX5_passWithStep 1 = .ok (.invokevirtual 88, 3) := by decide +kernel
theorem dX5_passWithStep_4 : decode cX5_passWithStep 4 = .ok (.aload_n 0, 1) := by decide +kernel
theorem dX5_passWithStep_5 : decode cX5_passWithStep 5 = .ok (.aload_n 0, 1) := by decide +kernel
theorem dX5_passWithStep_6 : decode cX5_passWithStep 6 = .ok (.getfield 49, 3) := by decide +kernel
theorem dX5_passWithStep_9 : decode cX5_passWithStep 9 = .ok (.invokevirtual 68, 3) := by decide +kernel
theorem dX5_passWithStep_12 : decode cX5_passWithStep 12 = .ok (.invokevirtual 91, 3) := by decide +kernel
theorem dX5_passWithStep_15 : decode cX5_passWithStep 15 = .ok (.aload_n 0, 1) := by decide +kernel
theorem dX5_passWithStep_16 : decode cX5_passWithStep 16 = .ok (.invokevirtual 95, 3) := by decide +kernel
theorem dX5_passWithStep_19 : decode cX5_passWithStep 19 = .ok (.return_, 1) := by decide +kernel
theorem dX5_passIdle_0 : decode cX5_passIdle 0 = .ok (.aload_n 0, 1) := by decide +kernel
theorem dX5_passIdle_1 : decode cX5_passIdle 1 = .ok (.invokevirtual 88, 3) := by decide +kernel
theorem dX5_passIdle_4 : decode cX5_passIdle 4 = .ok (.aload_n 0, 1) := by decide +kernel
theorem dX5_passIdle_5 : decode cX5_passIdle 5 = .ok (.invokevirtual 95, 3) := by decide +kernel
theorem dX5_passIdle_8 : decode cX5_passIdle 8 = .ok (.return_, 1) := by decide +kernel
theorem dX5_passIdleUntil_0 : decode cX5_passIdleUntil 0 = .ok (.aload_n 0, 1) := by decide +kernel
theorem dX5_passIdleUntil_1 : decode cX5_passIdleUntil 1 = .ok (.getfield 49, 3) := by decide +kernel
theorem dX5_passIdleUntil_4 : decode cX5_passIdleUntil 4 = .ok (.getfield 98, 3) := by decide +kernel
theorem dX5_passIdleUntil_7 : decode cX5_passIdleUntil 7 = .ok (.istore_n 2, 1) := by decide +kernel
theorem dX5_passIdleUntil_8 : decode cX5_passIdleUntil 8 = .ok (.iload_n 2, 1) := by decide +kernel
theorem dX5_passIdleUntil_9 : decode cX5_passIdleUntil 9 = .ok (.iload_n 1, 1) := by decide +kernel
theorem dX5_passIdleUntil_10 : decode cX5_passIdleUntil 10 = .ok (.if_icmp .ge 13, 3) := by decide +kernel
theorem dX5_passIdleUntil_13 : decode cX5_passIdleUntil 13 = .ok (.aload_n 0, 1) := by decide +kernel
theorem dX5_passIdleUntil_14 : decode cX5_passIdleUntil 14 = .ok (.invokevirtual 101, 3) := by decide +kernel
theorem dX5_passIdleUntil_17 : decode cX5_passIdleUntil 17 = .ok (.iinc 2 1, 3) := by decide +kernel
theorem dX5_passIdleUntil_20 : decode cX5_passIdleUntil 20 = .ok (.goto (-12), 3) := by decide +kernel
theorem dX5_passIdleUntil_23 : decode cX5_passIdleUntil 23 = .ok (.return_, 1) := by decide +kernel
theorem dX5_beginTick_0 : decode cX5_beginTick 0 = .ok (.aload_n 0, 1) := by decide +kernel
theorem dX5_beginTick_1 : decode cX5_beginTick 1 = .ok (.getfield 49, 3) := by decide +kernel
theorem dX5_beginTick_4 : decode cX5_beginTick 4 = .ok (.invokevirtual 64, 3) := by decide +kernel
theorem dX5_beginTick_7 : decode cX5_beginTick 7 = .ok (.ifCond .ne 4, 3) := by decide +kernel
theorem dX5_beginTick_10 : decode cX5_beginTick 10 = .ok (.return_, 1) := by decide +kernel
theorem dX5_beginTick_11 : decode cX5_beginTick 11 = .ok (.aload_n 0, 1) := by decide +kernel
theorem dX5_beginTick_12 : decode cX5_beginTick 12 = .ok (.iconst 0, 1) := by decide +kernel
theorem dX5_beginTick_13 : decode cX5_beginTick 13 = .ok (.putfield 60, 3) := by decide +kernel
theorem dX5_beginTick_16 : decode cX5_beginTick 16 = .ok (.aload_n 0, 1) := by decide +kernel
theorem dX5_beginTick_17 : decode cX5_beginTick 17 = .ok (.getfield 49, 3) := by decide +kernel
theorem dX5_beginTick_20 : decode cX5_beginTick 20 = .ok (.invokevirtual 68, 3) := by decide +kernel
theorem dX5_beginTick_23 : decode cX5_beginTick 23 = .ok (.istore_n 1, 1) := by decide +kernel
theorem dX5_beginTick_24 : decode cX5_beginTick 24 = .ok (.iconst 0, 1) := by decide +kernel
theorem dX5_beginTick_25 : decode cX5_beginTick 25 = .ok (.istore_n 2, 1) := by decide +kernel
theorem dX5_beginTick_26 : decode cX5_beginTick 26 = .ok (.iload_n 2, 1) := by decide +kernel
theorem dX5_beginTick_27 : decode cX5_beginTick 27 = .ok (.aload_n 0, 1) := by decide +kernel
theorem dX5_beginTick_28 : decode cX5_beginTick 28 = .ok (.getfield 9, 3) := by decide +kernel
theorem dX5_beginTick_31 : decode cX5_beginTick 31 = .ok (.getfield 34, 3) := by decide +kernel
theorem dX5_beginTick_34 : decode cX5_beginTick 34 = .ok (.if_icmp .ge 47, 3) := by decide +kernel
theorem dX5_beginTick_37 : decode cX5_beginTick 37 = .ok (.aload_n 0, 1) := by decide +kernel
theorem dX5_beginTick_38 : decode cX5_beginTick 38 = .ok (.getfield 30, 3) := by decide +kernel
theorem dX5_beginTick_41 : decode cX5_beginTick 41 = .ok (.iload_n 2, 1) := by decide +kernel
theorem dX5_beginTick_42 : decode cX5_beginTick 42 = .ok (.aaload, 1) := by decide +kernel
theorem dX5_beginTick_43 : decode cX5_beginTick 43 = .ok (.astore_n 3, 1) := by decide +kernel
theorem dX5_beginTick_44 : decode cX5_beginTick 44 = .ok (.aload_n 3, 1) := by decide +kernel
theorem dX5_beginTick_45 : decode cX5_beginTick 45 = .ok (.getfield 104, 3) := by decide +kernel
theorem dX5_beginTick_48 : decode cX5_beginTick 48 = .ok (.getfield 108, 3) := by decide +kernel
theorem dX5_beginTick_51 : decode cX5_beginTick 51 = .ok (.iload_n 1, 1) := by decide +kernel
theorem dX5_beginTick_52 : decode cX5_beginTick 52 = .ok (.if_icmp .ne 8, 3) := by decide +kernel
theorem dX5_beginTick_55 : decode cX5_beginTick 55 = .ok (.aload_n 3, 1) := by decide +kernel
theorem dX5_beginTick_56 : decode cX5_beginTick 56 = .ok (.iconst 0, 1) := by decide +kernel
theorem dX5_beginTick_57 : decode cX5_beginTick 57 = .ok (.putfield 113, 3) := by decide +kernel
theorem dX5_beginTick_60 : decode cX5_beginTick 60 = .ok (.aload_n 3, 1) := by decide +kernel
theorem dX5_beginTick_61 : decode cX5_beginTick 61 = .ok (.getfield 104, 3) := by decide +kernel
theorem dX5_beginTick_64 : decode cX5_beginTick 64 = .ok (.getfield 116, 3) := by decide +kernel
theorem dX5_beginTick_67 : decode cX5_beginTick 67 = .ok (.iload_n 1, 1) := by decide +kernel
theorem dX5_beginTick_68 : decode cX5_beginTick 68 = .ok (.if_icmp .ne 7, 3) := by decide +kernel
theorem dX5_beginTick_71 : decode cX5_beginTick 71 = .ok (.aload_n 3, 1) := by decide +kernel
theorem dX5_beginTick_72 : decode cX5_beginTick 72 = .ok (.invokevirtual 119, 3) := by decide +kernel
theorem dX5_beginTick_75 : decode cX5_beginTick 75 = .ok (.iinc 2 1, 3) := by decide +kernel
theorem dX5_beginTick_78 : decode cX5_beginTick 78 = .ok (.goto (-52), 3) := by decide +kernel
theorem dX5_beginTick_81 : decode cX5_beginTick 81 = .ok (.return_, 1) := by decide +kernel
theorem dX5_endTick_0 : decode cX5_endTick 0 = .ok (.aload_n 0, 1) := by decide +kernel
theorem dX5_endTick_1 : decode cX5_endTick 1 = .ok (.getfield 23, 3) := by decide +kernel
theorem dX5_endTick_4 : decode cX5_endTick 4 = .ok (.aload_n 0, 1) := by decide +kernel
theorem dX5_endTick_5 : decode cX5_endTick 5 = .ok (.getfield 49, 3) := by decide +kernel
theorem dX5_endTick_8 : decode cX5_endTick 8 = .ok (.invokevirtual 68, 3) := by decide +kernel
theorem dX5_endTick_11 : decode cX5_endTick 11 = .ok (.aaload, 1) := by decide +kernel
theorem dX5_endTick_12 : decode cX5_endTick 12 = .ok (.dup, 1) := by decide +kernel
theorem dX5_endTick_13 : decode cX5_endTick 13 = .ok (.getfield 122, 3) := by decide +kernel
theorem dX5_endTick_16 : decode cX5_endTick 16 = .ok (.iconst 1, 1) := by decide +kernel
theorem dX5_endTick_17 : decode cX5_endTick 17 = .ok (.iadd, 1) := by decide +kernel
theorem dX5_endTick_18 : decode cX5_endTick 18 = .ok (.putfield 122, 3) := by decide +kernel
theorem dX5_endTick_21 : decode cX5_endTick 21 = .ok (.aload_n 0, 1) := by decide +kernel
theorem dX5_endTick_22 : decode cX5_endTick 22 = .ok (.getfield 49, 3) := by decide +kernel
theorem dX5_endTick_25 : decode cX5_endTick 25 = .ok (.invokevirtual 125, 3) := by decide +kernel
theorem dX5_endTick_28 : decode cX5_endTick 28 = .ok (.return_, 1) := by decide +kernel
theorem dX5_makeStep_0 : decode cX5_makeStep 0 = .ok (.aload_n 0, 1) := by decide +kernel
theorem dX5_makeStep_1 : decode cX5_makeStep 1 = .ok (.getfield 23, 3) := by decide +kernel
theorem dX5_makeStep_4 : decode cX5_makeStep 4 = .ok (.iload_n 1, 1) := by decide +kernel
theorem dX5_makeStep_5 : decode cX5_makeStep 5 = .ok (.aaload, 1) := by decide +kernel
theorem dX5_makeStep_6 : decode cX5_makeStep 6 = .ok (.astore_n 2, 1) := by decide +kernel
theorem dX5_makeStep_7 : decode cX5_makeStep 7 = .ok (.aload_n 2, 1) := by decide +kernel
theorem dX5_makeStep_8 : decode cX5_makeStep 8 = .ok (.dup, 1) := by decide +kernel
theorem dX5_makeStep_9 : decode cX5_makeStep 9 = .ok (.getfield 128, 3) := by decide +kernel
theorem dX5_makeStep_12 : decode cX5_makeStep 12 = .ok (.iconst 1, 1) := by decide +kernel
theorem dX5_makeStep_13 : decode cX5_makeStep 13 = .ok (.iadd, 1) := by decide +kernel
theorem dX5_makeStep_14 : decode cX5_makeStep 14 = .ok (.putfield 128, 3) := by decide +kernel
theorem dX5_makeStep_17 : decode cX5_makeStep 17 = .ok (.aload_n 0, 1) := by decide +kernel
theorem dX5_makeStep_18 : decode cX5_makeStep 18 = .ok (.invokevirtual 131, 3) := by decide +kernel
theorem dX5_makeStep_21 : decode cX5_makeStep 21 = .ok (.istore_n 3, 1) := by decide +kernel
theorem dX5_makeStep_22 : decode cX5_makeStep 22 = .ok (.iconst 0, 1) := by decide +kernel
theorem dX5_makeStep_23 : decode cX5_makeStep 23 = .ok (.istore 4, 2) := by decide +kernel
theorem dX5_makeStep_25 : decode cX5_makeStep 25 = .ok (.aload_n 2, 1) := by decide +kernel
theorem dX5_makeStep_26 : decode cX5_makeStep 26 = .ok (.getfield 79, 3) := by decide +kernel
theorem dX5_makeStep_29 : decode cX5_makeStep 29 = .ok (.aload_n 0, 1) := by decide +kernel
theorem dX5_makeStep_30 : decode cX5_makeStep 30 = .ok (.getfield 9, 3) := by decide +kernel
theorem dX5_makeStep_33 : decode cX5_makeStep 33 = .ok (.getfield 75, 3) := by decide +kernel
theorem dX5_makeStep_36 : decode cX5_makeStep 36 = .ok (.iload_n 1, 1) := by decide +kernel
theorem dX5_makeStep_37 : decode cX5_makeStep 37 = .ok (.aaload, 1) := by decide +kernel
theorem dX5_makeStep_38 : decode cX5_makeStep 38 = .ok (.getfield 134, 3) := by decide +kernel
theorem dX5_makeStep_41 : decode cX5_makeStep 41 = .ok (.if_icmp .ge 29, 3) := by decide +kernel
theorem dX5_makeStep_44 : decode cX5_makeStep 44 = .ok (.iload_n 3, 1) := by decide +kernel
theorem dX5_makeStep_45 : decode cX5_makeStep 45 = .ok (.invokestatic 137, 3) := by decide +kernel
theorem dX5_makeStep_48 : decode cX5_makeStep 48 = .ok (.invokestatic 140, 3) := by decide +kernel
theorem dX5_makeStep_51 : decode cX5_makeStep 51 = .ok (.ifCond .eq 11, 3) := by decide +kernel
theorem dX5_makeStep_54 : decode cX5_makeStep 54 = .ok (.aload_n 2, 1) := by decide +kernel
theorem dX5_makeStep_55 : decode cX5_makeStep 55 = .ok (.iload_n 3, 1) := by decide +kernel
theorem dX5_makeStep_56 : decode cX5_makeStep 56 = .ok (.invokevirtual 144, 3) := by decide +kernel
theorem dX5_makeStep_59 : decode cX5_makeStep 59 = .ok (.goto 9, 3) := by decide +kernel
theorem dX5_makeStep_62 : decode cX5_makeStep 62 = .ok (.aload_n 0, 1) := by decide +kernel
theorem dX5_makeStep_63 : decode cX5_makeStep 63 = .ok (.iload_n 1, 1) := by decide +kernel
theorem dX5_makeStep_64 : decode cX5_makeStep 64 = .ok (.iload_n 3, 1) := by decide +kernel
theorem dX5_makeStep_65 : decode cX5_makeStep 65 = .ok (.invokevirtual 147, 3) := by decide +kernel
theorem dX5_makeStep_68 : decode cX5_makeStep 68 = .ok (.istore 4, 2) := by decide +kernel
theorem dX5_makeStep_70 : decode cX5_makeStep 70 = .ok (.iload 4, 2) := by decide +kernel
theorem dX5_makeStep_72 : decode cX5_makeStep 72 = .ok (.ifCond .eq 15, 3) := by decide +kernel
theorem dX5_makeStep_75 : decode cX5_makeStep 75 = .ok (.aload_n 2, 1) := by decide +kernel
theorem dX5_makeStep_76 : decode cX5_makeStep 76 = .ok (.aload_n 2, 1) := by decide +kernel
theorem dX5_makeStep_77 : decode cX5_makeStep 77 = .ok (.iload_n 3, 1) := by decide +kernel
theorem dX5_makeStep_78 : decode cX5_makeStep 78 = .ok (.invokevirtual 151, 3) := by decide +kernel
theorem dX5_makeStep_81 : decode cX5_makeStep 81 = .ok (.putfield 79, 3) := by decide +kernel
theorem dX5_makeStep_84 : decode cX5_makeStep 84 = .ok (.goto 16, 3) := by decide +kernel
theorem dX5_makeStep_87 : decode cX5_makeStep 87 = .ok (.aload_n 2, 1) := by decide +kernel
theorem dX5_makeStep_88 : decode cX5_makeStep 88 = .ok (.aload_n 0, 1) := by decide +kernel
theorem dX5_makeStep_89 : decode cX5_makeStep 89 = .ok (.getfield 9, 3) := by decide +kernel
theorem dX5_makeStep_92 : decode cX5_makeStep 92 = .ok (.getfield 154, 3) := by decide +kernel
theorem dX5_makeStep_95 : decode cX5_makeStep 95 = .ok (.iload_n 1, 1) := by decide +kernel
theorem dX5_makeStep_96 : decode cX5_makeStep 96 = .ok (.iaload, 1) := by decide +kernel
theorem dX5_makeStep_97 : decode cX5_makeStep 97 = .ok (.invokevirtual 158, 3) := by decide +kernel
theorem dX5_makeStep_100 : decode cX5_makeStep 100 = .ok (.return_, 1) := by decide +kernel
theorem dX5_isAlone_0 : decode cX5_isAlone 0 = .ok (.iload_n 0, 1) := by decide +kernel
theorem dX5_isAlone_1 : decode cX5_isAlone 1 = .ok (.bipush 13, 2) := by decide +kernel
theorem dX5_isAlone_3 : decode cX5_isAlone 3 = .ok (.if_icmp .le 15, 3) := by decide +kernel
theorem dX5_isAlone_6 : decode cX5_isAlone 6 = .ok (.iload_n 0, 1) := by decide +kernel
theorem dX5_isAlone_7 : decode cX5_isAlone 7 = .ok (.bipush 18, 2) := by decide +kernel
theorem dX5_isAlone_9 : decode cX5_isAlone 9 = .ok (.if_icmp .eq 9, 3) := by decide +kernel
theorem dX5_isAlone_12 : decode cX5_isAlone 12 = .ok (.iload_n 0, 1) := by decide +kernel
theorem dX5_isAlone_13 : decode cX5_isAlone 13 = .ok (.bipush 19, 2) := by decide +kernel
theorem dX5_isAlone_15 : decode cX5_isAlone 15 = .ok (.if_icmp .ne 7, 3) := by decide +kernel
theorem dX5_isAlone_18 : decode cX5_isAlone 18 = .ok (.iconst 1, 1) := by decide +kernel
theorem dX5_isAlone_19 : decode cX5_isAlone 19 = .ok (.goto 4, 3) := by decide +kernel
theorem dX5_isAlone_22 : decode cX5_isAlone 22 = .ok (.iconst 0, 1) := by decide +kernel
theorem dX5_isAlone_23 : decode cX5_isAlone 23 = .ok (.ireturn, 1) := by decide +kernel
theorem dX5_performShared_0 : decode cX5_performShared 0 = .ok (.iload_n 2, 1) := by decide +kernel
theorem dX5_performShared_1 : decode cX5_performShared 1 = .ok (.invokestatic 161, 3) := by decide +kernel
theorem dX5_performShared_4 : decode cX5_performShared 4 = .ok (.istore_n 3, 1) := by decide +kernel
theorem dX5_performShared_5 : decode cX5_performShared 5 = .ok (.iload_n 2, 1) := by decide +kernel
theorem dX5_performShared_6 : decode cX5_performShared 6 = .ok (.invokestatic 137, 3) := by decide +kernel
theorem dX5_performShared_9 : decode cX5_performShared 9 = .ok (.tableswitch 146 14 24 #[59, 66, 73, 80, 146, 146, 87, 106, 113, 120, 127], 59) := by decide +kernel
theorem dX5_performShared_68 : decode cX5_performShared 68 = .ok (.aload_n 0, 1) := by decide +kernel
theorem dX5_performShared_69 : decode cX5_performShared 69 = .ok (.iload_n 1, 1) := by decide +kernel
theorem dX5_performShared_70 : decode cX5_performShared 70 = .ok (.iload_n 2, 1) := by decide +kernel
theorem dX5_performShared_71 : decode cX5_performShared 71 = .ok (.invokevirtual 164, 3) := by decide +kernel
theorem dX5_performShared_74 : decode cX5_performShared 74 = .ok (.ireturn, 1) := by decide +kernel
theorem dX5_performShared_75 : decode cX5_performShared 75 = .ok (.aload_n 0, 1) := by decide +kernel
theorem dX5_performShared_76 : decode cX5_performShared 76 = .ok (.iload_n 1, 1) := by decide +kernel
theorem dX5_performShared_77 : decode cX5_performShared 77 = .ok (.iload_n 2, 1) := by decide +kernel
theorem dX5_performShared_78 : decode cX5_performShared 78 = .ok (.invokevirtual 167, 3) := by decide +kernel
theorem dX5_performShared_81 : decode cX5_performShared 81 = .ok (.ireturn, 1) := by decide +kernel
theorem dX5_performShared_82 : decode cX5_performShared 82 = .ok (.aload_n 0, 1) := by decide +kernel
theorem dX5_performShared_83 : decode cX5_performShared 83 = .ok (.iload_n 1, 1) := by decide +kernel
theorem dX5_performShared_84 : decode cX5_performShared 84 = .ok (.iload_n 2, 1) := by decide +kernel
theorem dX5_performShared_85 : decode cX5_performShared 85 = .ok (.invokevirtual 170, 3) := by decide +kernel
theorem dX5_performShared_88 : decode cX5_performShared 88 = .ok (.ireturn, 1) := by decide +kernel
theorem dX5_performShared_89 : decode cX5_performShared 89 = .ok (.aload_n 0, 1) := by decide +kernel
theorem dX5_performShared_90 : decode cX5_performShared 90 = .ok (.iload_n 1, 1) := by decide +kernel
theorem dX5_performShared_91 : decode cX5_performShared 91 = .ok (.iload_n 2, 1) := by decide +kernel
theorem dX5_performShared_92 : decode cX5_performShared 92 = .ok (.invokevirtual 173, 3) := by decide +kernel
theorem dX5_performShared_95 : decode cX5_performShared 95 = .ok (.ireturn, 1) := by decide +kernel
theorem dX5_performShared_96 : decode cX5_performShared 96 = .ok (.aload_n 0, 1) := by decide +kernel
theorem dX5_performShared_97 : decode cX5_performShared 97 = .ok (.getfield 23, 3) := by decide +kernel
theorem dX5_performShared_100 : decode cX5_performShared 100 = .ok (.iload_n 1, 1) := by decide +kernel
theorem dX5_performShared_101 : decode cX5_performShared 101 = .ok (.aaload, 1) := by decide +kernel
theorem dX5_performShared_102 : decode cX5_performShared 102 = .ok (.iload_n 3, 1) := by decide +kernel
theorem dX5_performShared_103 : decode cX5_performShared 103 = .ok (.aload_n 0, 1) := by decide +kernel
theorem dX5_performShared_104 : decode cX5_performShared 104 = .ok (.getfield 49, 3) := by decide +kernel
theorem dX5_performShared_107 : decode cX5_performShared 107 = .ok (.getfield 98, 3) := by decide +kernel
theorem dX5_performShared_110 : decode cX5_performShared 110 = .ok (.invokevirtual 176, 3) := by decide +kernel
theorem dX5_performShared_113 : decode cX5_performShared 113 = .ok (.iconst 1, 1) := by decide +kernel
theorem dX5_performShared_114 : decode cX5_performShared 114 = .ok (.ireturn, 1) := by decide +kernel
theorem dX5_performShared_115 : decode cX5_performShared 115 = .ok (.aload_n 0, 1) := by decide +kernel
theorem dX5_performShared_116 : decode cX5_performShared 116 = .ok (.iconst 1, 1) := by decide +kernel
theorem dX5_performShared_117 : decode cX5_performShared 117 = .ok (.putfield 60, 3) := by decide +kernel
theorem dX5_performShared_120 : decode cX5_performShared 120 = .ok (.iconst 1, 1) := by decide +kernel
theorem dX5_performShared_121 : decode cX5_performShared 121 = .ok (.ireturn, 1) := by decide +kernel
theorem dX5_performShared_122 : decode cX5_performShared 122 = .ok (.aload_n 0, 1) := by decide +kernel
theorem dX5_performShared_123 : decode cX5_performShared 123 = .ok (.iload_n 1, 1) := by decide +kernel
theorem dX5_performShared_124 : decode cX5_performShared 124 = .ok (.iload_n 2, 1) := by decide +kernel
theorem dX5_performShared_125 : decode cX5_performShared 125 = .ok (.invokevirtual 180, 3) := by decide +kernel
theorem dX5_performShared_128 : decode cX5_performShared 128 = .ok (.ireturn, 1) := by decide +kernel
theorem dX5_performShared_129 : decode cX5_performShared 129 = .ok (.aload_n 0, 1) := by decide +kernel
theorem dX5_performShared_130 : decode cX5_performShared 130 = .ok (.iload_n 1, 1) := by decide +kernel
theorem dX5_performShared_131 : decode cX5_performShared 131 = .ok (.iload_n 3, 1) := by decide +kernel
theorem dX5_performShared_132 : decode cX5_performShared 132 = .ok (.invokevirtual 183, 3) := by decide +kernel
theorem dX5_performShared_135 : decode cX5_performShared 135 = .ok (.ireturn, 1) := by decide +kernel
theorem dX5_performShared_136 : decode cX5_performShared 136 = .ok (.aload_n 0, 1) := by decide +kernel
theorem dX5_performShared_137 : decode cX5_performShared 137 = .ok (.getfield 23, 3) := by decide +kernel
theorem dX5_performShared_140 : decode cX5_performShared 140 = .ok (.iload_n 1, 1) := by decide +kernel
theorem dX5_performShared_141 : decode cX5_performShared 141 = .ok (.aaload, 1) := by decide +kernel
theorem dX5_performShared_142 : decode cX5_performShared 142 = .ok (.iload_n 3, 1) := by decide +kernel
theorem dX5_performShared_143 : decode cX5_performShared 143 = .ok (.aload_n 0, 1) := by decide +kernel
theorem dX5_performShared_144 : decode cX5_performShared 144 = .ok (.getfield 49, 3) := by decide +kernel
theorem dX5_performShared_147 : decode cX5_performShared 147 = .ok (.getfield 186, 3) := by decide +kernel
theorem dX5_performShared_150 : decode cX5_performShared 150 = .ok (.invokevirtual 176, 3) := by decide +kernel
theorem dX5_performShared_153 : decode cX5_performShared 153 = .ok (.iconst 1, 1) := by decide +kernel
theorem dX5_performShared_154 : decode cX5_performShared 154 = .ok (.ireturn, 1) := by decide +kernel
theorem dX5_performShared_155 : decode cX5_performShared 155 = .ok (.iconst 0, 1) := by decide +kernel
theorem dX5_performShared_156 : decode cX5_performShared 156 = .ok (.ireturn, 1) := by decide +kernel
theorem dX5_channelOfKind_0 : decode cX5_channelOfKind 0 = .ok (.iload_n 1, 1) := by decide +kernel
theorem dX5_channelOfKind_1 : decode cX5_channelOfKind 1 = .ok (.aload_n 0, 1) := by decide +kernel
theorem dX5_channelOfKind_2 : decode cX5_channelOfKind 2 = .ok (.getfield 9, 3) := by decide +kernel
theorem dX5_channelOfKind_5 : decode cX5_channelOfKind 5 = .ok (.getfield 34, 3) := by decide +kernel
theorem dX5_channelOfKind_8 : decode cX5_channelOfKind 8 = .ok (.if_icmp .ge 28, 3) := by decide +kernel
theorem dX5_channelOfKind_11 : decode cX5_channelOfKind 11 = .ok (.aload_n 0, 1) := by decide +kernel
theorem dX5_channelOfKind_12 : decode cX5_channelOfKind 12 = .ok (.getfield 9, 3) := by decide +kernel
theorem dX5_channelOfKind_15 : decode cX5_channelOfKind 15 = .ok (.getfield 37, 3) := by decide +kernel
theorem dX5_channelOfKind_18 : decode cX5_channelOfKind 18 = .ok (.iload_n 1, 1) := by decide +kernel
theorem dX5_channelOfKind_19 : decode cX5_channelOfKind 19 = .ok (.aaload, 1) := by decide +kernel
theorem dX5_channelOfKind_20 : decode cX5_channelOfKind 20 = .ok (.getfield 189, 3) := by decide +kernel
theorem dX5_channelOfKind_23 : decode cX5_channelOfKind 23 = .ok (.iload_n 2, 1) := by decide +kernel
theorem dX5_channelOfKind_24 : decode cX5_channelOfKind 24 = .ok (.if_icmp .ne 12, 3) := by decide +kernel
theorem dX5_channelOfKind_27 : decode cX5_channelOfKind 27 = .ok (.aload_n 0, 1) := by decide +kernel
theorem dX5_channelOfKind_28 : decode cX5_channelOfKind 28 = .ok (.getfield 30, 3) := by decide +kernel
theorem dX5_channelOfKind_31 : decode cX5_channelOfKind 31 = .ok (.iload_n 1, 1) := by decide +kernel
theorem dX5_channelOfKind_32 : decode cX5_channelOfKind 32 = .ok (.aaload, 1) := by decide +kernel
theorem dX5_channelOfKind_33 : decode cX5_channelOfKind 33 = .ok (.goto 4, 3) := by decide +kernel
theorem dX5_channelOfKind_36 : decode cX5_channelOfKind 36 = .ok (.aconst_null, 1) := by decide +kernel
theorem dX5_channelOfKind_37 : decode cX5_channelOfKind 37 = .ok (.areturn, 1) := by decide +kernel
theorem dX5_send_0 : decode cX5_send 0 = .ok (.aload_n 0, 1) := by decide +kernel
theorem dX5_send_1 : decode cX5_send 1 = .ok (.getfield 23, 3) := by decide +kernel
theorem dX5_send_4 : decode cX5_send 4 = .ok (.iload_n 1, 1) := by decide +kernel
theorem dX5_send_5 : decode cX5_send 5 = .ok (.aaload, 1) := by decide +kernel
theorem dX5_send_6 : decode cX5_send 6 = .ok (.astore_n 3, 1) := by decide +kernel
theorem dX5_send_7 : decode cX5_send 7 = .ok (.aload_n 0, 1) := by decide +kernel
theorem dX5_send_8 : decode cX5_send 8 = .ok (.iload_n 2, 1) := by decide +kernel
theorem dX5_send_9 : decode cX5_send 9 = .ok (.invokestatic 161, 3) := by decide +kernel
theorem dX5_send_12 : decode cX5_send 12 = .ok (.iconst 0, 1) := by decide +kernel
theorem dX5_send_13 : decode cX5_send 13 = .ok (.invokevirtual 192, 3) := by decide +kernel
theorem dX5_send_16 : decode cX5_send 16 = .ok (.astore 4, 2) := by decide +kernel
theorem dX5_send_18 : decode cX5_send 18 = .ok (.aload 4, 2) := by decide +kernel
theorem dX5_send_20 : decode cX5_send 20 = .ok (.ifnull 15, 3) := by decide +kernel
theorem dX5_send_23 : decode cX5_send 23 = .ok (.aload 4, 2) := by decide +kernel
theorem dX5_send_25 : decode cX5_send 25 = .ok (.getfield 104, 3) := by decide +kernel
theorem dX5_send_28 : decode cX5_send 28 = .ok (.getfield 108, 3) := by decide +kernel
theorem dX5_send_31 : decode cX5_send 31 = .ok (.iload_n 1, 1) := by decide +kernel
theorem dX5_send_32 : decode cX5_send 32 = .ok (.if_icmp .eq 5, 3) := by decide +kernel
theorem dX5_send_35 : decode cX5_send 35 = .ok (.iconst 0, 1) := by decide +kernel
theorem dX5_send_36 : decode cX5_send 36 = .ok (.ireturn, 1) := by decide +kernel
theorem dX5_send_37 : decode cX5_send 37 = .ok (.aload_n 3, 1) := by decide +kernel
theorem dX5_send_38 : decode cX5_send 38 = .ok (.iload_n 2, 1) := by decide +kernel
theorem dX5_send_39 : decode cX5_send 39 = .ok (.invokestatic 196, 3) := by decide +kernel
theorem dX5_send_42 : decode cX5_send 42 = .ok (.invokevirtual 199, 3) := by decide +kernel
theorem dX5_send_45 : decode cX5_send 45 = .ok (.istore 5, 2) := by decide +kernel
theorem dX5_send_47 : decode cX5_send 47 = .ok (.aload_n 3, 1) := by decide +kernel
theorem dX5_send_48 : decode cX5_send 48 = .ok (.iload_n 2, 1) := by decide +kernel
theorem dX5_send_49 : decode cX5_send 49 = .ok (.invokestatic 202, 3) := by decide +kernel
theorem dX5_send_52 : decode cX5_send 52 = .ok (.invokevirtual 199, 3) := by decide +kernel
theorem dX5_send_55 : decode cX5_send 55 = .ok (.istore 6, 2) := by decide +kernel
theorem dX5_send_57 : decode cX5_send 57 = .ok (.iload 6, 2) := by decide +kernel
theorem dX5_send_59 : decode cX5_send 59 = .ok (.iconst 1, 1) := by decide +kernel
theorem dX5_send_60 : decode cX5_send 60 = .ok (.if_icmp .lt 19, 3) := by decide +kernel
theorem dX5_send_63 : decode cX5_send 63 = .ok (.iload 6, 2) := by decide +kernel
theorem dX5_send_65 : decode cX5_send 65 = .ok (.iconst 4, 1) := by decide +kernel
theorem dX5_send_66 : decode cX5_send 66 = .ok (.if_icmp .gt 13, 3) := by decide +kernel
theorem dX5_send_69 : decode cX5_send 69 = .ok (.iload 5, 2) := by decide +kernel
theorem dX5_send_71 : decode cX5_send 71 = .ok (.iload 6, 2) := by decide +kernel
theorem dX5_send_73 : decode cX5_send 73 = .ok (.invokestatic 205, 3) := by decide +kernel
theorem dX5_send_76 : decode cX5_send 76 = .ok (.ifCond .ne 5, 3) := by decide +kernel
theorem dX5_send_79 : decode cX5_send 79 = .ok (.iconst 0, 1) := by decide +kernel
theorem dX5_send_80 : decode cX5_send 80 = .ok (.ireturn, 1) := by decide +kernel
theorem dX5_send_81 : decode cX5_send 81 = .ok (.aload 4, 2) := by decide +kernel
theorem dX5_send_83 : decode cX5_send 83 = .ok (.getfield 113, 3) := by decide +kernel
theorem dX5_send_86 : decode cX5_send 86 = .ok (.aload 4, 2) := by decide +kernel
theorem dX5_send_88 : decode cX5_send 88 = .ok (.getfield 104, 3) := by decide +kernel
theorem dX5_send_91 : decode cX5_send 91 = .ok (.getfield 208, 3) := by decide +kernel
theorem dX5_send_94 : decode cX5_send 94 = .ok (.if_icmp .ne 10, 3) := by decide +kernel
theorem dX5_send_97 : decode cX5_send 97 = .ok (.aload_n 3, 1) := by decide +kernel
theorem dX5_send_98 : decode cX5_send 98 = .ok (.iconst 0, 1) := by decide +kernel
theorem dX5_send_99 : decode cX5_send 99 = .ok (.invokevirtual 209, 3) := by decide +kernel
theorem dX5_send_102 : decode cX5_send 102 = .ok (.iconst 1, 1) := by decide +kernel
theorem dX5_send_103 : decode cX5_send 103 = .ok (.ireturn, 1) := by decide +kernel
theorem dX5_send_104 : decode cX5_send 104 = .ok (.aload 4, 2) := by decide +kernel
theorem dX5_send_106 : decode cX5_send 106 = .ok (.dup, 1) := by decide +kernel
theorem dX5_send_107 : decode cX5_send 107 = .ok (.getfield 113, 3) := by decide +kernel
theorem dX5_send_110 : decode cX5_send 110 = .ok (.iconst 1, 1) := by decide +kernel
theorem dX5_send_111 : decode cX5_send 111 = .ok (.iadd, 1) := by decide +kernel
theorem dX5_send_112 : decode cX5_send 112 = .ok (.putfield 113, 3) := by decide +kernel
theorem dX5_send_115 : decode cX5_send 115 = .ok (.aload 4, 2) := by decide +kernel
theorem dX5_send_117 : decode cX5_send 117 = .ok (.getfield 212, 3) := by decide +kernel
theorem dX5_send_120 : decode cX5_send 120 = .ok (.aload_n 3, 1) := by decide +kernel
theorem dX5_send_121 : decode cX5_send 121 = .ok (.getfield 216, 3) := by decide +kernel
theorem dX5_send_124 : decode cX5_send 124 = .ok (.iload 5, 2) := by decide +kernel
theorem dX5_send_126 : decode cX5_send 126 = .ok (.iload 6, 2) := by decide +kernel
theorem dX5_send_128 : decode cX5_send 128 = .ok (.invokevirtual 219, 3) := by decide +kernel
theorem dX5_send_131 : decode cX5_send 131 = .ok (.aload_n 3, 1) := by decide +kernel
theorem dX5_send_132 : decode cX5_send 132 = .ok (.iconst 1, 1) := by decide +kernel
theorem dX5_send_133 : decode cX5_send 133 = .ok (.invokevirtual 209, 3) := by decide +kernel
theorem dX5_send_136 : decode cX5_send 136 = .ok (.iconst 1, 1) := by decide +kernel
theorem dX5_send_137 : decode cX5_send 137 = .ok (.ireturn, 1) := by decide +kernel
theorem dX5_take_0 : decode cX5_take 0 = .ok (.aload_n 0, 1) := by decide +kernel
theorem dX5_take_1 : decode cX5_take 1 = .ok (.getfield 23, 3) := by decide +kernel
theorem dX5_take_4 : decode cX5_take 4 = .ok (.iload_n 1, 1) := by decide +kernel
theorem dX5_take_5 : decode cX5_take 5 = .ok (.aaload, 1) := by decide +kernel
theorem dX5_take_6 : decode cX5_take 6 = .ok (.astore_n 3, 1) := by decide +kernel
theorem dX5_take_7 : decode cX5_take 7 = .ok (.aload_n 0, 1) := by decide +kernel
theorem dX5_take_8 : decode cX5_take 8 = .ok (.iload_n 2, 1) := by decide +kernel
theorem dX5_take_9 : decode cX5_take 9 = .ok (.invokestatic 161, 3) := by decide +kernel
theorem dX5_take_12 : decode cX5_take 12 = .ok (.iconst 0, 1) := by decide +kernel
theorem dX5_take_13 : decode cX5_take 13 = .ok (.invokevirtual 192, 3) := by decide +kernel
theorem dX5_take_16 : decode cX5_take 16 = .ok (.astore 4, 2) := by decide +kernel
theorem dX5_take_18 : decode cX5_take 18 = .ok (.aload 4, 2) := by decide +kernel
theorem dX5_take_20 : decode cX5_take 20 = .ok (.ifnull 15, 3) := by decide +kernel
theorem dX5_take_23 : decode cX5_take 23 = .ok (.aload 4, 2) := by decide +kernel
theorem dX5_take_25 : decode cX5_take 25 = .ok (.getfield 104, 3) := by decide +kernel
theorem dX5_take_28 : decode cX5_take 28 = .ok (.getfield 116, 3) := by decide +kernel
theorem dX5_take_31 : decode cX5_take 31 = .ok (.iload_n 1, 1) := by decide +kernel
theorem dX5_take_32 : decode cX5_take 32 = .ok (.if_icmp .eq 5, 3) := by decide +kernel
theorem dX5_take_35 : decode cX5_take 35 = .ok (.iconst 0, 1) := by decide +kernel
theorem dX5_take_36 : decode cX5_take 36 = .ok (.ireturn, 1) := by decide +kernel
theorem dX5_take_37 : decode cX5_take 37 = .ok (.aload 4, 2) := by decide +kernel
theorem dX5_take_39 : decode cX5_take 39 = .ok (.getfield 225, 3) := by decide +kernel
theorem dX5_take_42 : decode cX5_take 42 = .ok (.invokevirtual 228, 3) := by decide +kernel
theorem dX5_take_45 : decode cX5_take 45 = .ok (.ifCond .ne 10, 3) := by decide +kernel
theorem dX5_take_48 : decode cX5_take 48 = .ok (.aload_n 3, 1) := by decide +kernel
theorem dX5_take_49 : decode cX5_take 49 = .ok (.iconst (-1), 1) := by decide +kernel
theorem dX5_take_50 : decode cX5_take 50 = .ok (.invokevirtual 209, 3) := by decide +kernel
theorem dX5_take_53 : decode cX5_take 53 = .ok (.iconst 1, 1) := by decide +kernel
theorem dX5_take_54 : decode cX5_take 54 = .ok (.ireturn, 1) := by decide +kernel
theorem dX5_take_55 : decode cX5_take 55 = .ok (.aload_n 3, 1) := by decide +kernel
theorem dX5_take_56 : decode cX5_take 56 = .ok (.iload_n 2, 1) := by decide +kernel
theorem dX5_take_57 : decode cX5_take 57 = .ok (.invokestatic 196, 3) := by decide +kernel
theorem dX5_take_60 : decode cX5_take 60 = .ok (.invokevirtual 199, 3) := by decide +kernel
theorem dX5_take_63 : decode cX5_take 63 = .ok (.istore 5, 2) := by decide +kernel
theorem dX5_take_65 : decode cX5_take 65 = .ok (.aload 4, 2) := by decide +kernel
theorem dX5_take_67 : decode cX5_take 67 = .ok (.getfield 225, 3) := by decide +kernel
theorem dX5_take_70 : decode cX5_take 70 = .ok (.invokevirtual 230, 3) := by decide +kernel
theorem dX5_take_73 : decode cX5_take 73 = .ok (.istore 6, 2) := by decide +kernel
theorem dX5_take_75 : decode cX5_take 75 = .ok (.iload 5, 2) := by decide +kernel
theorem dX5_take_77 : decode cX5_take 77 = .ok (.iload 6, 2) := by decide +kernel
theorem dX5_take_79 : decode cX5_take 79 = .ok (.invokestatic 205, 3) := by decide +kernel
theorem dX5_take_82 : decode cX5_take 82 = .ok (.ifCond .ne 5, 3) := by decide +kernel
theorem dX5_take_85 : decode cX5_take 85 = .ok (.iconst 0, 1) := by decide +kernel
theorem dX5_take_86 : decode cX5_take 86 = .ok (.ireturn, 1) := by decide +kernel
theorem dX5_take_87 : decode cX5_take 87 = .ok (.aload 4, 2) := by decide +kernel
theorem dX5_take_89 : decode cX5_take 89 = .ok (.getfield 225, 3) := by decide +kernel
theorem dX5_take_92 : decode cX5_take 92 = .ok (.aload_n 3, 1) := by decide +kernel
theorem dX5_take_93 : decode cX5_take 93 = .ok (.getfield 216, 3) := by decide +kernel
theorem dX5_take_96 : decode cX5_take 96 = .ok (.iload 5, 2) := by decide +kernel
theorem dX5_take_98 : decode cX5_take 98 = .ok (.invokevirtual 233, 3) := by decide +kernel
theorem dX5_take_101 : decode cX5_take 101 = .ok (.aload_n 3, 1) := by decide +kernel
theorem dX5_take_102 : decode cX5_take 102 = .ok (.iload 6, 2) := by decide +kernel
theorem dX5_take_104 : decode cX5_take 104 = .ok (.invokevirtual 209, 3) := by decide +kernel
theorem dX5_take_107 : decode cX5_take 107 = .ok (.iconst 1, 1) := by decide +kernel
theorem dX5_take_108 : decode cX5_take 108 = .ok (.ireturn, 1) := by decide +kernel
theorem dX5_writeBoard_0 : decode cX5_writeBoard 0 = .ok (.aload_n 0, 1) := by decide +kernel
theorem dX5_writeBoard_1 : decode cX5_writeBoard 1 = .ok (.getfield 23, 3) := by decide +kernel
theorem dX5_writeBoard_4 : decode cX5_writeBoard 4 = .ok (.iload_n 1, 1) := by decide +kernel
theorem dX5_writeBoard_5 : decode cX5_writeBoard 5 = .ok (.aaload, 1) := by decide +kernel
theorem dX5_writeBoard_6 : decode cX5_writeBoard 6 = .ok (.astore_n 3, 1) := by decide +kernel
theorem dX5_writeBoard_7 : decode cX5_writeBoard 7 = .ok (.aload_n 0, 1) := by decide +kernel
theorem dX5_writeBoard_8 : decode cX5_writeBoard 8 = .ok (.iload_n 2, 1) := by decide +kernel
theorem dX5_writeBoard_9 : decode cX5_writeBoard 9 = .ok (.invokestatic 161, 3) := by decide +kernel
theorem dX5_writeBoard_12 : decode cX5_writeBoard 12 = .ok (.iconst 1, 1) := by decide +kernel
theorem dX5_writeBoard_13 : decode cX5_writeBoard 13 = .ok (.invokevirtual 192, 3) := by decide +kernel
theorem dX5_writeBoard_16 : decode cX5_writeBoard 16 = .ok (.astore 4, 2) := by decide +kernel
theorem dX5_writeBoard_18 : decode cX5_writeBoard 18 = .ok (.aload_n 3, 1) := by decide +kernel
theorem dX5_writeBoard_19 : decode cX5_writeBoard 19 = .ok (.iload_n 2, 1) := by decide +kernel
theorem dX5_writeBoard_20 : decode cX5_writeBoard 20 = .ok (.invokestatic 196, 3) := by decide +kernel
theorem dX5_writeBoard_23 : decode cX5_writeBoard 23 = .ok (.invokevirtual 199, 3) := by decide +kernel
theorem dX5_writeBoard_26 : decode cX5_writeBoard 26 = .ok (.istore 5, 2) := by decide +kernel
theorem dX5_writeBoard_28 : decode cX5_writeBoard 28 = .ok (.aload 4, 2) := by decide +kernel
theorem dX5_writeBoard_30 : decode cX5_writeBoard 30 = .ok (.ifnull 31, 3) := by decide +kernel
theorem dX5_writeBoard_33 : decode cX5_writeBoard 33 = .ok (.aload 4, 2) := by decide +kernel
theorem dX5_writeBoard_35 : decode cX5_writeBoard 35 = .ok (.getfield 104, 3) := by decide +kernel
theorem dX5_writeBoard_38 : decode cX5_writeBoard 38 = .ok (.getfield 108, 3) := by decide +kernel
theorem dX5_writeBoard_41 : decode cX5_writeBoard 41 = .ok (.iload_n 1, 1) := by decide +kernel
theorem dX5_writeBoard_42 : decode cX5_writeBoard 42 = .ok (.if_icmp .ne 19, 3) := by decide +kernel
theorem dX5_writeBoard_45 : decode cX5_writeBoard 45 = .ok (.iload 5, 2) := by decide +kernel
theorem dX5_writeBoard_47 : decode cX5_writeBoard 47 = .ok (.aload 4, 2) := by decide +kernel
theorem dX5_writeBoard_49 : decode cX5_writeBoard 49 = .ok (.getfield 104, 3) := by decide +kernel
theorem dX5_writeBoard_52 : decode cX5_writeBoard 52 = .ok (.getfield 208, 3) := by decide +kernel
theorem dX5_writeBoard_55 : decode cX5_writeBoard 55 = .ok (.invokestatic 205, 3) := by decide +kernel
theorem dX5_writeBoard_58 : decode cX5_writeBoard 58 = .ok (.ifCond .ne 5, 3) := by decide +kernel
theorem dX5_writeBoard_61 : decode cX5_writeBoard 61 = .ok (.iconst 0, 1) := by decide +kernel
theorem dX5_writeBoard_62 : decode cX5_writeBoard 62 = .ok (.ireturn, 1) := by decide +kernel
theorem dX5_writeBoard_63 : decode cX5_writeBoard 63 = .ok (.aload_n 3, 1) := by decide +kernel
theorem dX5_writeBoard_64 : decode cX5_writeBoard 64 = .ok (.getfield 216, 3) := by decide +kernel
theorem dX5_writeBoard_67 : decode cX5_writeBoard 67 = .ok (.iload 5, 2) := by decide +kernel
theorem dX5_writeBoard_69 : decode cX5_writeBoard 69 = .ok (.aload 4, 2) := by decide +kernel
theorem dX5_writeBoard_71 : decode cX5_writeBoard 71 = .ok (.getfield 237, 3) := by decide +kernel
theorem dX5_writeBoard_74 : decode cX5_writeBoard 74 = .ok (.iconst 0, 1) := by decide +kernel
theorem dX5_writeBoard_75 : decode cX5_writeBoard 75 = .ok (.aload 4, 2) := by decide +kernel
theorem dX5_writeBoard_77 : decode cX5_writeBoard 77 = .ok (.getfield 104, 3) := by decide +kernel
theorem dX5_writeBoard_80 : decode cX5_writeBoard 80 = .ok (.getfield 208, 3) := by decide +kernel
theorem dX5_writeBoard_83 : decode cX5_writeBoard 83 = .ok (.invokestatic 240, 3) := by decide +kernel
theorem dX5_writeBoard_86 : decode cX5_writeBoard 86 = .ok (.aload 4, 2) := by decide +kernel
theorem dX5_writeBoard_88 : decode cX5_writeBoard 88 = .ok (.dup, 1) := by decide +kernel
theorem dX5_writeBoard_89 : decode cX5_writeBoard 89 = .ok (.getfield 246, 3) := by decide +kernel
theorem dX5_writeBoard_92 : decode cX5_writeBoard 92 = .ok (.iconst 1, 1) := by decide +kernel
theorem dX5_writeBoard_93 : decode cX5_writeBoard 93 = .ok (.iadd, 1) := by decide +kernel
theorem dX5_writeBoard_94 : decode cX5_writeBoard 94 = .ok (.putfield 246, 3) := by decide +kernel
theorem dX5_writeBoard_97 : decode cX5_writeBoard 97 = .ok (.aload 4, 2) := by decide +kernel
theorem dX5_writeBoard_99 : decode cX5_writeBoard 99 = .ok (.aload_n 0, 1) := by decide +kernel
theorem dX5_writeBoard_100 : decode cX5_writeBoard 100 = .ok (.getfield 49, 3) := by decide +kernel
theorem dX5_writeBoard_103 : decode cX5_writeBoard 103 = .ok (.getfield 98, 3) := by decide +kernel
theorem dX5_writeBoard_106 : decode cX5_writeBoard 106 = .ok (.putfield 249, 3) := by decide +kernel
theorem dX5_writeBoard_109 : decode cX5_writeBoard 109 = .ok (.iconst 1, 1) := by decide +kernel
theorem dX5_writeBoard_110 : decode cX5_writeBoard 110 = .ok (.ireturn, 1) := by decide +kernel
theorem dX5_seeBoard_0 : decode cX5_seeBoard 0 = .ok (.aload_n 0, 1) := by decide +kernel
theorem dX5_seeBoard_1 : decode cX5_seeBoard 1 = .ok (.getfield 23, 3) := by decide +kernel
theorem dX5_seeBoard_4 : decode cX5_seeBoard 4 = .ok (.iload_n 1, 1) := by decide +kernel
theorem dX5_seeBoard_5 : decode cX5_seeBoard 5 = .ok (.aaload, 1) := by decide +kernel
theorem dX5_seeBoard_6 : decode cX5_seeBoard 6 = .ok (.astore_n 3, 1) := by decide +kernel
theorem dX5_seeBoard_7 : decode cX5_seeBoard 7 = .ok (.aload_n 0, 1) := by decide +kernel
theorem dX5_seeBoard_8 : decode cX5_seeBoard 8 = .ok (.iload_n 2, 1) := by decide +kernel
theorem dX5_seeBoard_9 : decode cX5_seeBoard 9 = .ok (.invokestatic 161, 3) := by decide +kernel
theorem dX5_seeBoard_12 : decode cX5_seeBoard 12 = .ok (.iconst 1, 1) := by decide +kernel
theorem dX5_seeBoard_13 : decode cX5_seeBoard 13 = .ok (.invokevirtual 192, 3) := by decide +kernel
theorem dX5_seeBoard_16 : decode cX5_seeBoard 16 = .ok (.astore 4, 2) := by decide +kernel
theorem dX5_seeBoard_18 : decode cX5_seeBoard 18 = .ok (.aload_n 3, 1) := by decide +kernel
theorem dX5_seeBoard_19 : decode cX5_seeBoard 19 = .ok (.iload_n 2, 1) := by decide +kernel
theorem dX5_seeBoard_20 : decode cX5_seeBoard 20 = .ok (.invokestatic 196, 3) := by decide +kernel
theorem dX5_seeBoard_23 : decode cX5_seeBoard 23 = .ok (.invokevirtual 199, 3) := by decide +kernel
theorem dX5_seeBoard_26 : decode cX5_seeBoard 26 = .ok (.istore 5, 2) := by decide +kernel
theorem dX5_seeBoard_28 : decode cX5_seeBoard 28 = .ok (.aload 4, 2) := by decide +kernel
theorem dX5_seeBoard_30 : decode cX5_seeBoard 30 = .ok (.ifnull 31, 3) := by decide +kernel
theorem dX5_seeBoard_33 : decode cX5_seeBoard 33 = .ok (.aload 4, 2) := by decide +kernel
theorem dX5_seeBoard_35 : decode cX5_seeBoard 35 = .ok (.getfield 104, 3) := by decide +kernel
theorem dX5_seeBoard_38 : decode cX5_seeBoard 38 = .ok (.getfield 116, 3) := by decide +kernel
theorem dX5_seeBoard_41 : decode cX5_seeBoard 41 = .ok (.iload_n 1, 1) := by decide +kernel
theorem dX5_seeBoard_42 : decode cX5_seeBoard 42 = .ok (.if_icmp .ne 19, 3) := by decide +kernel
theorem dX5_seeBoard_45 : decode cX5_seeBoard 45 = .ok (.iload 5, 2) := by decide +kernel
theorem dX5_seeBoard_47 : decode cX5_seeBoard 47 = .ok (.aload 4, 2) := by decide +kernel
theorem dX5_seeBoard_49 : decode cX5_seeBoard 49 = .ok (.getfield 104, 3) := by decide +kernel
theorem dX5_seeBoard_52 : decode cX5_seeBoard 52 = .ok (.getfield 208, 3) := by decide +kernel
theorem dX5_seeBoard_55 : decode cX5_seeBoard 55 = .ok (.invokestatic 205, 3) := by decide +kernel
theorem dX5_seeBoard_58 : decode cX5_seeBoard 58 = .ok (.ifCond .ne 5, 3) := by decide +kernel
theorem dX5_seeBoard_61 : decode cX5_seeBoard 61 = .ok (.iconst 0, 1) := by decide +kernel
theorem dX5_seeBoard_62 : decode cX5_seeBoard 62 = .ok (.ireturn, 1) := by decide +kernel
theorem dX5_seeBoard_63 : decode cX5_seeBoard 63 = .ok (.aload 4, 2) := by decide +kernel
theorem dX5_seeBoard_65 : decode cX5_seeBoard 65 = .ok (.getfield 237, 3) := by decide +kernel
theorem dX5_seeBoard_68 : decode cX5_seeBoard 68 = .ok (.iconst 0, 1) := by decide +kernel
theorem dX5_seeBoard_69 : decode cX5_seeBoard 69 = .ok (.aload_n 3, 1) := by decide +kernel
theorem dX5_seeBoard_70 : decode cX5_seeBoard 70 = .ok (.getfield 216, 3) := by decide +kernel
theorem dX5_seeBoard_73 : decode cX5_seeBoard 73 = .ok (.iload 5, 2) := by decide +kernel
theorem dX5_seeBoard_75 : decode cX5_seeBoard 75 = .ok (.aload 4, 2) := by decide +kernel
theorem dX5_seeBoard_77 : decode cX5_seeBoard 77 = .ok (.getfield 104, 3) := by decide +kernel
theorem dX5_seeBoard_80 : decode cX5_seeBoard 80 = .ok (.getfield 208, 3) := by decide +kernel
theorem dX5_seeBoard_83 : decode cX5_seeBoard 83 = .ok (.invokestatic 240, 3) := by decide +kernel
theorem dX5_seeBoard_86 : decode cX5_seeBoard 86 = .ok (.aload_n 3, 1) := by decide +kernel
theorem dX5_seeBoard_87 : decode cX5_seeBoard 87 = .ok (.aload 4, 2) := by decide +kernel
theorem dX5_seeBoard_89 : decode cX5_seeBoard 89 = .ok (.aload_n 0, 1) := by decide +kernel
theorem dX5_seeBoard_90 : decode cX5_seeBoard 90 = .ok (.getfield 49, 3) := by decide +kernel
theorem dX5_seeBoard_93 : decode cX5_seeBoard 93 = .ok (.getfield 98, 3) := by decide +kernel
theorem dX5_seeBoard_96 : decode cX5_seeBoard 96 = .ok (.invokevirtual 252, 3) := by decide +kernel
theorem dX5_seeBoard_99 : decode cX5_seeBoard 99 = .ok (.invokevirtual 209, 3) := by decide +kernel
theorem dX5_seeBoard_102 : decode cX5_seeBoard 102 = .ok (.iconst 1, 1) := by decide +kernel
theorem dX5_seeBoard_103 : decode cX5_seeBoard 103 = .ok (.ireturn, 1) := by decide +kernel
theorem dX5_look_0 : decode cX5_look 0 = .ok (.iload_n 2, 1) := by decide +kernel
theorem dX5_look_1 : decode cX5_look 1 = .ok (.invokestatic 196, 3) := by decide +kernel
theorem dX5_look_4 : decode cX5_look 4 = .ok (.istore_n 3, 1) := by decide +kernel
theorem dX5_look_5 : decode cX5_look 5 = .ok (.aload_n 0, 1) := by decide +kernel
theorem dX5_look_6 : decode cX5_look 6 = .ok (.getfield 23, 3) := by decide +kernel
theorem dX5_look_9 : decode cX5_look 9 = .ok (.iload_n 1, 1) := by decide +kernel
theorem dX5_look_10 : decode cX5_look 10 = .ok (.aaload, 1) := by decide +kernel
theorem dX5_look_11 : decode cX5_look 11 = .ok (.iload_n 2, 1) := by decide +kernel
theorem dX5_look_12 : decode cX5_look 12 = .ok (.invokestatic 202, 3) := by decide +kernel
theorem dX5_look_15 : decode cX5_look 15 = .ok (.invokevirtual 199, 3) := by decide +kernel
theorem dX5_look_18 : decode cX5_look 18 = .ok (.istore 4, 2) := by decide +kernel
theorem dX5_look_20 : decode cX5_look 20 = .ok (.aload_n 0, 1) := by decide +kernel
theorem dX5_look_21 : decode cX5_look 21 = .ok (.getfield 9, 3) := by decide +kernel
theorem dX5_look_24 : decode cX5_look 24 = .ok (.iload_n 3, 1) := by decide +kernel
theorem dX5_look_25 : decode cX5_look 25 = .ok (.invokevirtual 255, 3) := by decide +kernel
theorem dX5_look_28 : decode cX5_look 28 = .ok (.ifCond .eq 24, 3) := by decide +kernel
theorem dX5_look_31 : decode cX5_look 31 = .ok (.aload_n 0, 1) := by decide +kernel
theorem dX5_look_32 : decode cX5_look 32 = .ok (.getfield 9, 3) := by decide +kernel
theorem dX5_look_35 : decode cX5_look 35 = .ok (.iload_n 3, 1) := by decide +kernel
theorem dX5_look_36 : decode cX5_look 36 = .ok (.iload_n 1, 1) := by decide +kernel
theorem dX5_look_37 : decode cX5_look 37 = .ok (.invokevirtual 258, 3) := by decide +kernel
theorem dX5_look_40 : decode cX5_look 40 = .ok (.ifCond .eq 12, 3) := by decide +kernel
theorem dX5_look_43 : decode cX5_look 43 = .ok (.iload 4, 2) := by decide +kernel
theorem dX5_look_45 : decode cX5_look 45 = .ok (.iconst 1, 1) := by decide +kernel
theorem dX5_look_46 : decode cX5_look 46 = .ok (.invokestatic 205, 3) := by decide +kernel
theorem dX5_look_49 : decode cX5_look 49 = .ok (.ifCond .ne 5, 3) := by decide +kernel
theorem dX5_look_52 : decode cX5_look 52 = .ok (.iconst 0, 1) := by decide +kernel
theorem dX5_look_53 : decode cX5_look 53 = .ok (.ireturn, 1) := by decide +kernel
theorem dX5_look_54 : decode cX5_look 54 = .ok (.aload_n 0, 1) := by decide +kernel
theorem dX5_look_55 : decode cX5_look 55 = .ok (.getfield 23, 3) := by decide +kernel
theorem dX5_look_58 : decode cX5_look 58 = .ok (.iload_n 1, 1) := by decide +kernel
theorem dX5_look_59 : decode cX5_look 59 = .ok (.aaload, 1) := by decide +kernel
theorem dX5_look_60 : decode cX5_look 60 = .ok (.iload_n 2, 1) := by decide +kernel
theorem dX5_look_61 : decode cX5_look 61 = .ok (.invokestatic 161, 3) := by decide +kernel
theorem dX5_look_64 : decode cX5_look 64 = .ok (.aload_n 0, 1) := by decide +kernel
theorem dX5_look_65 : decode cX5_look 65 = .ok (.getfield 23, 3) := by decide +kernel
theorem dX5_look_68 : decode cX5_look 68 = .ok (.iload_n 3, 1) := by decide +kernel
theorem dX5_look_69 : decode cX5_look 69 = .ok (.aaload, 1) := by decide +kernel
theorem dX5_look_70 : decode cX5_look 70 = .ok (.getfield 216, 3) := by decide +kernel
theorem dX5_look_73 : decode cX5_look 73 = .ok (.iload 4, 2) := by decide +kernel
theorem dX5_look_75 : decode cX5_look 75 = .ok (.iaload, 1) := by decide +kernel
theorem dX5_look_76 : decode cX5_look 76 = .ok (.invokevirtual 176, 3) := by decide +kernel
theorem dX5_look_79 : decode cX5_look 79 = .ok (.iconst 1, 1) := by decide +kernel
theorem dX5_look_80 : decode cX5_look 80 = .ok (.ireturn, 1) := by decide +kernel
theorem dX5_ask_0 : decode cX5_ask 0 = .ok (.iload_n 2, 1) := by decide +kernel
theorem dX5_ask_1 : decode cX5_ask 1 = .ok (.invokestatic 261, 3) := by decide +kernel
theorem dX5_ask_4 : decode cX5_ask 4 = .ok (.ifCond .eq 14, 3) := by decide +kernel
theorem dX5_ask_7 : decode cX5_ask 7 = .ok (.aload_n 0, 1) := by decide +kernel
theorem dX5_ask_8 : decode cX5_ask 8 = .ok (.getfield 9, 3) := by decide +kernel
theorem dX5_ask_11 : decode cX5_ask 11 = .ok (.iload_n 1, 1) := by decide +kernel
theorem dX5_ask_12 : decode cX5_ask 12 = .ok (.invokevirtual 264, 3) := by decide +kernel
theorem dX5_ask_15 : decode cX5_ask 15 = .ok (.ifCond .ne 5, 3) := by decide +kernel
theorem dX5_ask_18 : decode cX5_ask 18 = .ok (.iconst 0, 1) := by decide +kernel
theorem dX5_ask_19 : decode cX5_ask 19 = .ok (.ireturn, 1) := by decide +kernel
theorem dX5_ask_20 : decode cX5_ask 20 = .ok (.aload_n 0, 1) := by decide +kernel
theorem dX5_ask_21 : decode cX5_ask 21 = .ok (.getfield 49, 3) := by decide +kernel
theorem dX5_ask_24 : decode cX5_ask 24 = .ok (.iload_n 2, 1) := by decide +kernel
theorem dX5_ask_25 : decode cX5_ask 25 = .ok (.putfield 267, 3) := by decide +kernel
theorem dX5_ask_28 : decode cX5_ask 28 = .ok (.iconst 1, 1) := by decide +kernel
theorem dX5_ask_29 : decode cX5_ask 29 = .ok (.ireturn, 1) := by decide +kernel
theorem dX5_looksSameTo_0 : decode cX5_looksSameTo 0 = .ok (.aload_n 0, 1) := by decide +kernel
theorem dX5_looksSameTo_1 : decode cX5_looksSameTo 1 = .ok (.getfield 23, 3) := by decide +kernel
theorem dX5_looksSameTo_4 : decode cX5_looksSameTo 4 = .ok (.iload_n 1, 1) := by decide +kernel
theorem dX5_looksSameTo_5 : decode cX5_looksSameTo 5 = .ok (.aaload, 1) := by decide +kernel
theorem dX5_looksSameTo_6 : decode cX5_looksSameTo 6 = .ok (.aload_n 2, 1) := by decide +kernel
theorem dX5_looksSameTo_7 : decode cX5_looksSameTo 7 = .ok (.getfield 23, 3) := by decide +kernel
theorem dX5_looksSameTo_10 : decode cX5_looksSameTo 10 = .ok (.iload_n 1, 1) := by decide +kernel
theorem dX5_looksSameTo_11 : decode cX5_looksSameTo 11 = .ok (.aaload, 1) := by decide +kernel
theorem dX5_looksSameTo_12 : decode cX5_looksSameTo 12 = .ok (.invokevirtual 270, 3) := by decide +kernel
theorem dX5_looksSameTo_15 : decode cX5_looksSameTo 15 = .ok (.ifCond .ne 5, 3) := by decide +kernel
theorem dX5_looksSameTo_18 : decode cX5_looksSameTo 18 = .ok (.iconst 0, 1) := by decide +kernel
theorem dX5_looksSameTo_19 : decode cX5_looksSameTo 19 = .ok (.ireturn, 1) := by decide +kernel
theorem dX5_looksSameTo_20 : decode cX5_looksSameTo 20 = .ok (.iconst 0, 1) := by decide +kernel
theorem dX5_looksSameTo_21 : decode cX5_looksSameTo 21 = .ok (.istore_n 3, 1) := by decide +kernel
theorem dX5_looksSameTo_22 : decode cX5_looksSameTo 22 = .ok (.iload_n 3, 1) := by decide +kernel
theorem dX5_looksSameTo_23 : decode cX5_looksSameTo 23 = .ok (.aload_n 0, 1) := by decide +kernel
theorem dX5_looksSameTo_24 : decode cX5_looksSameTo 24 = .ok (.getfield 9, 3) := by decide +kernel
theorem dX5_looksSameTo_27 : decode cX5_looksSameTo 27 = .ok (.getfield 34, 3) := by decide +kernel
theorem dX5_looksSameTo_30 : decode cX5_looksSameTo 30 = .ok (.if_icmp .ge 52, 3) := by decide +kernel
theorem dX5_looksSameTo_33 : decode cX5_looksSameTo 33 = .ok (.aload_n 0, 1) := by decide +kernel
theorem dX5_looksSameTo_34 : decode cX5_looksSameTo 34 = .ok (.getfield 30, 3) := by decide +kernel
theorem dX5_looksSameTo_37 : decode cX5_looksSameTo 37 = .ok (.iload_n 3, 1) := by decide +kernel
